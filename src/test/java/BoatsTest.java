/** Promises 21 to 27: boats. */
final class BoatsTest {
    /** Alike are 0 and 2 (trade), 0 and 3 (town). */
    static final String FOUR = "plain 0 0 0 9 0;plain 1 1 1 9 0;plain 0 2 2 9 0;plain 3 0 3 9 0;seats 2;"
        + "here 0;here 1;here 2;here 3;";
    /** With 0 there is one boat alone; 1, 2, 6 and 3, 4, 5 make two. */
    private static final String SEVEN = "plain 0 3 0 0 0;plain 3 1 2 0 0;plain 0 3 1 0 0;plain 1 0 1 0 0;plain 3 3 0 0 0;"
        + "plain 0 1 2 0 0;plain 2 2 0 0 0;";
    private static final Due DUE = new Due();

    public static void main(String[] args) {
        mostBoats();
        sets();
        fillings();
        letIn();
        letInWithOneAboard();
        cheapest();
        noChangeOfTowns();
        sent();
        sentWithOneAboard();
        lasts();
        DUE.finish("BoatsTest");
    }

    private static void mostBoats() {
        UnlikeFerry x = Due.told(FOUR);
        DUE.is("most(2)", x.most(2), 2);
        DUE.is("most(3)", x.most(3), 1);
        DUE.is("most(4)", x.most(4), 0);
        DUE.is("most(1)", x.most(1), -1);
        DUE.is("most(6)", x.most(6), -1);
        x.board(1);
        DUE.is("most(2), one aboard", x.most(2), 2);
        x.leave(2);
        DUE.is("most(2), one gone", x.most(2), 1);
        UnlikeFerry y = Due.allHere("admiral0 0 0 0 0;".repeat(9));
        int[] due = {4, 3, 2, 1};
        for (int n = 2; n <= 5; n++) {
            DUE.is("nine admirals, most(" + n + ")", y.most(n), due[n - 2]);
        }
        DUE.is("nobody here", Due.told("plain 0 0 0 0 0;plain 1 1 1 0 0;").most(2), 0);
        DUE.is("seven, most(3)", Due.allHere(SEVEN).most(3), 2);
        DUE.is("the last fits nobody", Due.allHere("plain 0 0 0 0 0;plain 1 1 1 0 0;plain 0 1 2 0 0;").most(2), 1);
    }

    private static void sets() {
        UnlikeFerry x = Due.told(FOUR);
        int[] two = {4, 3, 0, 0};
        int[] three = {1, 14, 14, 1};
        int[] four = {0, -4, -4, -4};
        for (int what = 0; what < 4; what++) {
            x.seats(2);
            DUE.is("two seats, sets(" + what + ")", x.sets(what), two[what]);
            x.seats(3);
            DUE.is("three seats, sets(" + what + ")", x.sets(what), three[what]);
            x.seats(4);
            DUE.is("four seats, sets(" + what + ")", x.sets(what), four[what]);
        }
        DUE.is("sets(-1)", x.sets(-1), -1);
        DUE.is("sets(4)", x.sets(4), -1);
        x.seats(2);
        x.leave(3);
        x.turn(1, 1, 2);
        DUE.is("0 in the only one, sets(2)", x.sets(2), 3);
        x = Due.told(FOUR);
        x.leave(1);
        DUE.is("without 1, sets(0)", x.sets(0), 1);
        DUE.is("without 1, sets(1)", x.sets(1), 12);
        DUE.is("without 1, sets(3)", x.sets(3), 1);
        UnlikeFerry y = Due.allHere("admiral0 0 0 0 0;".repeat(9));
        y.seats(4);
        DUE.is("nine admirals, sets(0)", y.sets(0), 126);
    }

    private static void fillings() {
        UnlikeFerry x = Due.told(FOUR);
        DUE.is("fill(0), nobody aboard", x.fill(0), 4);
        DUE.is("fill(1), nobody aboard", x.fill(1), 3);
        x.board(3);
        DUE.is("fill(0), 3 aboard", x.fill(0), 2);
        DUE.is("fill(1), 3 aboard", x.fill(1), 10);
        x.leave(1);
        x.leave(2);
        DUE.is("fill(0), none", x.fill(0), 0);
        DUE.is("fill(1), none", x.fill(1), -4);
        DUE.is("fill(2)", x.fill(2), -1);
        DUE.is("fill(-1)", x.fill(-1), -1);
    }

    private static void letIn() {
        UnlikeFerry x = Due.allHere(SEVEN);
        DUE.is("seven, let(0)", x.let(0), 1);
        DUE.is("seven, let(1)", x.let(1), 2);
        x.leave(6);
        DUE.is("six, let(0)", x.let(0), 0);
        DUE.is("six, let(1)", x.let(1), 1);
        DUE.is("let(2)", x.let(2), -1);
        DUE.is("let(-1)", x.let(-1), -1);
        UnlikeFerry none = Due.told("plain 0 0 0 0 0;plain 0 1 1 0 0;seats 2;here 0;here 1;");
        DUE.is("no filling, let(0)", none.let(0), -4);
        DUE.is("no filling, let(1)", none.let(1), -4);
    }

    private static void letInWithOneAboard() {
        UnlikeFerry x = Due.told(FOUR);
        x.board(1);
        // With 2 the others are 0 and 3, who are alike; so with 3; with 0 they are 2 and 3.
        DUE.is("1 aboard, let(0)", x.let(0), 0);
        DUE.is("1 aboard, let(1)", x.let(1), 2);
        x.leave(0);
        DUE.is("1 aboard, 0 gone, let(0)", x.let(0), 2);
        DUE.is("1 aboard, 0 gone, let(1)", x.let(1), 1);
        UnlikeFerry y = Due.told(FOUR);
        y.board(3);
        y.leave(1);
        y.leave(2);
        DUE.is("3 aboard, 0 waits, let(0)", y.let(0), -4);
    }

    private static void cheapest() {
        UnlikeFerry x = Due.allHere("plain 0 0 0 0 0;plain 0 1 1 0 0;plain 0 2 1 0 0;cost 2 5;");
        DUE.is("cheap(0), two trades and a tale", x.cheap(0), 9);
        DUE.is("cheap(1)", x.cheap(1), 7);
        UnlikeFerry y = Due.allHere("plain 0 0 0 0 0;plain 0 1 1 0 0;plain 0 2 1 0 0;jack 0 3 2 0 0;cost 2 5;");
        DUE.is("cheap(0), with a jack", y.cheap(0), 2);
        DUE.is("cheap(1), with a jack", y.cheap(1), 11);
        y.board(2);
        DUE.is("cheap(1), 2 aboard", y.cheap(1), 11);
        y.price(0, 9);
        y.price(1, 0);
        DUE.is("cheap(0), tales are free", y.cheap(0), 9);
        DUE.is("cheap(2)", y.cheap(2), -1);
        DUE.is("cheap(-1)", y.cheap(-1), -1);
        DUE.is("cheap(0), unlike already", Due.allHere(FOUR).cheap(0), 0);
        DUE.is("cheap(1), unlike already", Due.allHere(FOUR).cheap(1), 3);
        DUE.is("nothing is changed", y.one(1, 1), 0);
    }

    private static void noChangeOfTowns() {
        UnlikeFerry x = Due.allHere("plain 0 0 0 0 0;plain 1 0 1 0 0;seats 2;");
        DUE.is("cheap(0), one town", x.cheap(0), -4);
        DUE.is("cheap(1), one town", x.cheap(1), -4);
        x.teach(1, 3);
        DUE.is("cheap(0), a nameless one", x.cheap(0), 0);
        x.turn(1, 0, 0);
        x.turn(1, 2, 0);
        DUE.is("cheap(0), nameless, all else alike", x.cheap(0), 2);
        x.teach(1, 2);
        DUE.is("cheap(0), an admiral", x.cheap(0), 0);
        x.seats(3);
        DUE.is("cheap(0), too few", x.cheap(0), -4);
    }

    private static void sent() {
        String[] kinds = {"plain", "liar", "admiral", "nameless", "jack"};
        int[] pairs = {25, 30, 36, 25, 30};
        int[] least = {11, 10, 0, 11, 1};
        for (int k = 0; k < 5; k++) {
            UnlikeFerry x = Due.allHere(kinds[k] + " 0 2 0 0 0;seats 2;");
            DUE.is(kinds[k] + ", send(3, 0)", x.send(3, 0), pairs[k]);
            DUE.is(kinds[k] + ", send(3, 1)", x.send(3, 1), least[k]);
            boolean towns = k == 2 || k == 3;
            DUE.is(kinds[k] + ", send(2, 0)", x.send(2, 0), towns ? pairs[k] : 0);
            DUE.is(kinds[k] + ", send(2, 1)", x.send(2, 1), towns ? least[k] : -4);
            DUE.is(kinds[k] + ", send(6, 0)", x.send(6, 0), -1);
            DUE.is(kinds[k] + ", send(-1, 0)", x.send(-1, 0), -1);
            DUE.is(kinds[k] + ", send(0, 2)", x.send(0, 2), -1);
            DUE.is(kinds[k] + ", send(0, -1)", x.send(0, -1), -1);
        }
        UnlikeFerry nine = Due.allHere("admiral0 0 0 0 0;".repeat(9));
        DUE.is("a tenth, send(0, 0)", nine.send(0, 0), 36);
        DUE.is("he is not here", nine.rule(0), 9);
    }

    private static void sentWithOneAboard() {
        UnlikeFerry x = Due.allHere("plain 0 0 0 9 0;plain 1 1 1 9 0;plain 0 5 5 9 0;");
        DUE.is("nobody aboard, send(3, 0)", x.send(3, 0), 20);
        x.board(0);
        DUE.is("0 aboard, send(3, 0)", x.send(3, 0), 16);
        DUE.is("0 aboard, send(3, 1)", x.send(3, 1), 22);
        DUE.is("0 aboard, send(5, 0)", x.send(5, 0), 16);
        DUE.is("0 aboard, send(0, 0)", x.send(0, 0), 0);
        DUE.is("0 aboard, send(1, 1)", x.send(1, 1), -4);
        x.board(1);
        DUE.is("two aboard, send(3, 0)", x.send(3, 0), 16);
    }

    private static void lasts() {
        UnlikeFerry x = Due.told(FOUR);
        x.seats(3);
        DUE.is("last(6)", x.last(6), 8);
        DUE.is("last(3)", x.last(3), 0);
        DUE.is("last(5), alike", x.last(5), 0);
        DUE.is("last(1), too few", x.last(1), -2);
        DUE.is("last(7), too many", x.last(7), -2);
        DUE.is("last(0)", x.last(0), -2);
        DUE.is("last(15), all of them", x.last(15), -2);
        DUE.is("last(16)", x.last(16), -1);
        DUE.is("last(18)", x.last(18), -1);
        DUE.is("last(-1)", x.last(-1), -1);
        x.seats(2);
        DUE.is("last(2), two seats", x.last(2), 13);
        x.leave(0);
        DUE.is("last(2), 0 gone", x.last(2), 12);
        DUE.is("last(1), 0 gone", x.last(1), -2);
        x.board(2);
        DUE.is("last(2), 2 aboard", x.last(2), 12);
    }
}
