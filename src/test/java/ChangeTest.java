/** Promises 9 to 16: what is changed. */
final class ChangeTest {
    private static final Due DUE = new Due();

    public static void main(String[] args) {
        turns();
        teaches();
        calms();
        seats();
        prices();
        comesAndLeaves();
        boards();
        DUE.finish("ChangeTest");
    }

    private static UnlikeFerry three() {
        return Due.told("plain 0 1 2 3 4;plain 1 2 3 4 5;jack 0 3 4 0 0;here 0;here 1;here 2;");
    }

    private static void turns() {
        UnlikeFerry x = three();
        for (int what = 0; what < 3; what++) {
            DUE.is("turn(0, " + what + ", 5)", x.turn(0, what, 5), what);
            DUE.is("turn(0, " + what + ", 0)", x.turn(0, what, 0), 5);
            DUE.is("one(0, " + (what + 1) + ")", x.one(0, what + 1), 0);
        }
        DUE.is("one(0, 0)", x.one(0, 0), 0);
        DUE.is("one(0, 4)", x.one(0, 4), 3);
        int[][] wrong = {{-1, 0, 0}, {3, 0, 0}, {0, -1, 0}, {0, 3, 0}, {0, 0, -1}, {0, 0, 6}};
        for (int[] w : wrong) {
            DUE.is("turn(" + w[0] + ", " + w[1] + ", " + w[2] + ")", x.turn(w[0], w[1], w[2]), -1);
        }
        x.board(0);
        DUE.is("turn(0, 0, 1), aboard", x.turn(0, 0, 1), -2);
        DUE.is("turn(0, 0, 6), aboard", x.turn(0, 0, 6), -1);
        DUE.is("it stays", x.one(0, 1), 0);
        x.leave(1);
        DUE.is("turn(1, 0, 4), gave up", x.turn(1, 0, 4), 1);
    }

    private static void teaches() {
        UnlikeFerry x = three();
        DUE.is("teach(0, 4)", x.teach(0, 4), 0);
        DUE.is("teach(0, 2)", x.teach(0, 2), 4);
        DUE.is("one(0, 0)", x.one(0, 0), 2);
        DUE.is("teach(0, 5)", x.teach(0, 5), -1);
        DUE.is("teach(0, -1)", x.teach(0, -1), -1);
        DUE.is("teach(3, 0)", x.teach(3, 0), -1);
        DUE.is("teach(-1, 0)", x.teach(-1, 0), -1);
        x.board(0);
        DUE.is("teach(0, 0), aboard", x.teach(0, 0), -2);
        DUE.is("teach(0, 5), aboard", x.teach(0, 5), -1);
        DUE.is("it stays", x.one(0, 0), 2);
    }

    private static void calms() {
        UnlikeFerry x = three();
        DUE.is("calm(0, 9)", x.calm(0, 9), 3);
        DUE.is("calm(0, 0)", x.calm(0, 0), 9);
        DUE.is("calm(0, 10)", x.calm(0, 10), -1);
        DUE.is("calm(0, -1)", x.calm(0, -1), -1);
        DUE.is("calm(3, 0)", x.calm(3, 0), -1);
        x.board(0);
        DUE.is("calm(0, 5), aboard", x.calm(0, 5), 0);
        DUE.is("one(0, 4)", x.one(0, 4), 5);
    }

    private static void seats() {
        UnlikeFerry x = three();
        DUE.is("seats(5)", x.seats(5), 3);
        DUE.is("seats(4)", x.seats(4), 5);
        DUE.is("seats(1)", x.seats(1), -1);
        DUE.is("seats(6)", x.seats(6), -1);
        x.board(0);
        DUE.is("seats(2), one aboard", x.seats(2), 4);
        x.seats(4);
        x.board(1);
        DUE.is("seats(2), two aboard", x.seats(2), -2);
        DUE.is("seats(1), two aboard", x.seats(1), -1);
        DUE.is("rule(1)", x.rule(1), 4);
        DUE.is("seats(3), two aboard", x.seats(3), 4);
        DUE.is("board(2)", x.board(2), 0);
        DUE.is("boats", x.rule(5), 1);
    }

    private static void prices() {
        UnlikeFerry x = new UnlikeFerry();
        DUE.is("price(0, 9)", x.price(0, 9), 1);
        DUE.is("price(1, 0)", x.price(1, 0), 1);
        DUE.is("rule(2)", x.rule(2), 9);
        DUE.is("rule(3)", x.rule(3), 0);
        DUE.is("price(0, 4)", x.price(0, 4), 9);
        DUE.is("price(1, 10)", x.price(1, 10), -1);
        DUE.is("price(1, -1)", x.price(1, -1), -1);
        DUE.is("price(2, 0)", x.price(2, 0), -1);
        DUE.is("price(-1, 0)", x.price(-1, 0), -1);
        DUE.is("rule(3), still", x.rule(3), 0);
    }

    private static void comesAndLeaves() {
        UnlikeFerry x = Due.told("plain 0 1 2 3 4;plain 1 2 3 4 5;plain 2 3 4 0 0;here 1;");
        DUE.is("come(0)", x.come(0), 2);
        DUE.is("come(0) again", x.come(0), -2);
        DUE.is("come(1), he waits", x.come(1), -2);
        DUE.is("come(3)", x.come(3), -1);
        DUE.is("come(-1)", x.come(-1), -1);
        DUE.is("rule(6)", x.rule(6), 3);
        DUE.is("leave(2), he is to come", x.leave(2), -2);
        DUE.is("leave(0)", x.leave(0), 1);
        DUE.is("leave(0) again", x.leave(0), -2);
        DUE.is("leave(3)", x.leave(3), -1);
        DUE.is("leave(-1)", x.leave(-1), -1);
        DUE.is("one(0, 6)", x.one(0, 6), 4);
        DUE.is("come(0), he gave up", x.come(0), -2);
        x.board(1);
        DUE.is("leave(1), aboard", x.leave(1), -2);
        DUE.is("come(2), one aboard", x.come(2), 1);
    }

    private static void boards() {
        UnlikeFerry x = Due.told("plain 0 0 0 0 0;plain 0 1 1 0 0;plain 1 0 1 0 0;plain 1 1 0 0 0;admiral 0 0 0 0 0;"
            + "liar 2 2 0 0 0;here 0;here 1;here 2;here 3;here 4;");
        DUE.is("board(-1)", x.board(-1), -1);
        DUE.is("board(6)", x.board(6), -1);
        DUE.is("board(5), to come", x.board(5), -2);
        DUE.is("board(0)", x.board(0), 1);
        DUE.is("board(0), aboard", x.board(0), -2);
        DUE.is("board(1), one trade", x.board(1), -4);
        DUE.is("board(2), one town", x.board(2), -4);
        DUE.is("board(3), one tale", x.board(3), -4);
        DUE.is("board(4), an admiral", x.board(4), 2);
        DUE.is("rule(7)", x.rule(7), 17);
        x.come(5);
        DUE.is("board(5), a liar", x.board(5), 0);
        DUE.is("rule(5)", x.rule(5), 1);
        DUE.is("rule(7)", x.rule(7), 0);
        DUE.is("rule(8)", x.rule(8), 49);
        DUE.is("board(0), sailed", x.board(0), -2);
        DUE.is("board(1), the next boat", x.board(1), 1);
        x.leave(2);
        DUE.is("board(2), gave up", x.board(2), -2);
    }
}
