import java.util.function.IntUnaryOperator;

/** The boundary cases of promises 9 to 16: what is changed. */
final class EdgeChangeTest {
    private static final int ABOARD = 2;
    private static final Due DUE = new Due();

    public static void main(String[] args) {
        turnBounds();
        turnRefused();
        turnAboard();
        teachBounds();
        teachRefused();
        teachAboard();
        calmBounds();
        calmRefused();
        seatsBounds();
        seatsAboard();
        priceBounds();
        priceRefused();
        comes();
        leaves();
        boardRefused();
        boardAlike();
        boardFull();
        DUE.finish("EdgeChangeTest");
    }

    private static void turnBounds() {
        DUE.says(9, "TRADE (what 0), TOWN (1), TALE (2) of a ONE becomes v: what it was");
        UnlikeFerry x = Due.told("plain 1 2 3 4 5;");
        for (int what = 0; what < 3; what++) {
            int was = what + 1;
            for (int v = 0; v <= 5; v++) {
                DUE.is("turn(0, " + what + ", " + v + ")", x.turn(0, what, v), was);
                DUE.is("one(0, " + (what + 1) + ")", x.one(0, what + 1), v);
                was = v;
            }
            DUE.is("turn to what it is", x.turn(0, what, 5), 5);
            DUE.is("turn(0, " + what + ", 0)", x.turn(0, what, 0), 5);
            for (int other = 1; other <= 3; other++) {
                DUE.is("one(0, " + other + ")", x.one(0, other), other <= what + 1 ? 0 : other);
            }
        }
    }

    private static void turnRefused() {
        DUE.says(9, "BAD");
        UnlikeFerry x = Due.fiveWays();
        int[][] wrong = {{-1, 0, 0}, {6, 0, 0}, {0, -1, 0}, {0, 3, 0}, {0, 0, -1}, {0, 0, 6}, {0, 1, -1}, {0, 1, 6},
            {0, 2, -1}, {0, 2, 6}, {0, 4, 0}, {0, 5, 0}, {9, 0, 0}};
        for (int[] w : wrong) {
            DUE.is("turn(" + w[0] + ", " + w[1] + ", " + w[2] + ")", x.turn(w[0], w[1], w[2]), -1);
        }
        for (int far : Due.FAR) {
            DUE.is("turn(" + far + ", 0, 0)", x.turn(far, 0, 0), -1);
            DUE.is("turn(0, " + far + ", 0)", x.turn(0, far, 0), -1);
            DUE.is("turn(0, 0, " + far + ")", x.turn(0, 0, far), -1);
        }
        for (int what = 0; what < 6; what++) {
            DUE.is("it stays, one(0, " + what + ")", x.one(0, what), new int[] {0, 0, 0, 0, 9, 9}[what]);
        }
    }

    private static void turnAboard() {
        DUE.says(9, "STATE: he is ABOARD");
        for (int what = 0; what < 3; what++) {
            UnlikeFerry x = Due.fiveWays();
            for (int p = 0; p < 5; p++) {
                DUE.is("turn(" + p + ", " + what + ", 5)", x.turn(p, what, 5), p == ABOARD ? -2 : p);
                DUE.is("one(" + p + ", " + (what + 1) + ")", x.one(p, what + 1), p == ABOARD ? 2 : 5);
                DUE.is("one(" + p + ", 6)", x.one(p, 6), p);
            }
            DUE.is("to what it is, aboard", x.turn(ABOARD, what, 2), -2);
        }
        DUE.termsSay("the first that fits: BAD ahead of STATE, turn()");
        UnlikeFerry x = Due.fiveWays();
        DUE.is("turn(2, 0, 6)", x.turn(ABOARD, 0, 6), -1);
        DUE.is("turn(2, 3, 0)", x.turn(ABOARD, 3, 0), -1);
        DUE.is("turn(2, -1, -1)", x.turn(ABOARD, -1, -1), -1);
    }

    private static void teachBounds() {
        DUE.says(10, "A ONE becomes of a KIND: of which he was");
        UnlikeFerry x = Due.told("liar 1 2 3 4 5;");
        int was = 1;
        for (int kind : new int[] {0, 4, 2, 3, 1, 1}) {
            DUE.is("teach(0, " + kind + ")", x.teach(0, kind), was);
            DUE.is("one(0, 0)", x.one(0, 0), kind);
            was = kind;
        }
        for (int what = 1; what <= 5; what++) {
            DUE.is("one(0, " + what + ")", x.one(0, what), what);
        }
    }

    private static void teachRefused() {
        DUE.says(10, "BAD");
        UnlikeFerry x = Due.fiveWays();
        DUE.is("teach(0, -1)", x.teach(0, -1), -1);
        DUE.is("teach(0, 5)", x.teach(0, 5), -1);
        DUE.is("teach(-1, 0)", x.teach(-1, 0), -1);
        DUE.is("teach(6, 0)", x.teach(6, 0), -1);
        DUE.is("teach(9, 0)", x.teach(9, 0), -1);
        for (int far : Due.FAR) {
            DUE.is("teach(" + far + ", 0)", x.teach(far, 0), -1);
            DUE.is("teach(0, " + far + ")", x.teach(0, far), -1);
        }
        DUE.is("one(0, 0)", x.one(0, 0), 0);
    }

    private static void teachAboard() {
        DUE.says(10, "STATE: he is ABOARD");
        UnlikeFerry x = Due.fiveWays();
        for (int p = 0; p < 5; p++) {
            DUE.is("teach(" + p + ", 4)", x.teach(p, 4), p == ABOARD ? -2 : 0);
            DUE.is("one(" + p + ", 0)", x.one(p, 0), p == ABOARD ? 0 : 4);
            DUE.is("one(" + p + ", 6)", x.one(p, 6), p);
        }
        DUE.is("to what he is, aboard", x.teach(ABOARD, 0), -2);
        DUE.termsSay("the first that fits: BAD ahead of STATE, teach()");
        DUE.is("teach(2, 5)", x.teach(ABOARD, 5), -1);
        DUE.is("teach(2, -1)", x.teach(ABOARD, -1), -1);
    }

    private static void calmBounds() {
        DUE.says(11, "PATIENCE of a ONE becomes v: what it was, whatever he is");
        UnlikeFerry x = Due.fiveWays();
        for (int p = 0; p < 5; p++) {
            DUE.is("calm(" + p + ", 0)", x.calm(p, 0), 9);
            DUE.is("calm(" + p + ", 9)", x.calm(p, 9), 0);
            DUE.is("calm(" + p + ", " + p + ")", x.calm(p, p), 9);
            DUE.is("one(" + p + ", 4)", x.one(p, 4), p);
            DUE.is("one(" + p + ", 6)", x.one(p, 6), p);
        }
    }

    private static void calmRefused() {
        DUE.says(11, "BAD");
        UnlikeFerry x = Due.fiveWays();
        DUE.is("calm(0, -1)", x.calm(0, -1), -1);
        DUE.is("calm(0, 10)", x.calm(0, 10), -1);
        DUE.is("calm(-1, 0)", x.calm(-1, 0), -1);
        DUE.is("calm(6, 0)", x.calm(6, 0), -1);
        DUE.is("calm(9, 0)", x.calm(9, 0), -1);
        for (int far : Due.FAR) {
            DUE.is("calm(" + far + ", 0)", x.calm(far, 0), -1);
            DUE.is("calm(0, " + far + ")", x.calm(0, far), -1);
        }
        DUE.is("one(0, 4)", x.one(0, 4), 9);
    }

    private static void seatsBounds() {
        DUE.says(12, "SEATS become n: what they were (2 to 5). BAD");
        UnlikeFerry x = new UnlikeFerry();
        int were = 3;
        for (int n : new int[] {2, 5, 3, 4, 4}) {
            DUE.is("seats(" + n + ")", x.seats(n), were);
            DUE.is("rule(1)", x.rule(1), n);
            were = n;
        }
        for (int n : new int[] {1, 6, 0, 7}) {
            DUE.is("seats(" + n + ")", x.seats(n), -1);
        }
        for (int far : Due.FAR) {
            DUE.is("seats(" + far + ")", x.seats(far), -1);
        }
        DUE.is("rule(1)", x.rule(1), 4);
    }

    private static void seatsAboard() {
        DUE.says(12, "STATE: n or more are ABOARD");
        UnlikeFerry x = Due.allHere("admiral0 0 0 9 0;".repeat(6) + "seats 5;");
        for (int aboard = 0; aboard <= 4; aboard++) {
            for (int n = 2; n <= 5; n++) {
                boolean refused = aboard >= n;
                DUE.is(aboard + " aboard, seats(" + n + ")", x.seats(n), refused ? -2 : 5);
                DUE.is(aboard + " aboard, rule(1)", x.rule(1), refused ? 5 : n);
                DUE.is(aboard + " aboard, rule(7)", x.rule(7), (1 << aboard) - 1);
                x.seats(5);
            }
            DUE.is(aboard + " aboard, seats(1), BAD ahead of STATE", x.seats(1), -1);
            DUE.is(aboard + " aboard, seats(6)", x.seats(6), -1);
            DUE.is("board(" + aboard + ")", x.board(aboard), (aboard + 1) % 5);
        }
        DUE.is("all sailed, seats(2)", x.seats(2), 5);
    }

    private static void priceBounds() {
        DUE.says(13, "The cost of TRADE (what 0), of TALE (1) becomes v: what it was");
        UnlikeFerry x = new UnlikeFerry();
        DUE.is("price(0, 0)", x.price(0, 0), 1);
        DUE.is("price(1, 9)", x.price(1, 9), 1);
        DUE.is("rule(2)", x.rule(2), 0);
        DUE.is("rule(3)", x.rule(3), 9);
        DUE.is("price(0, 9)", x.price(0, 9), 0);
        DUE.is("price(1, 0)", x.price(1, 0), 9);
        DUE.is("price(1, 0) again", x.price(1, 0), 0);
        DUE.is("rule(2)", x.rule(2), 9);
        DUE.is("rule(3)", x.rule(3), 0);
    }

    private static void priceRefused() {
        DUE.says(13, "BAD");
        UnlikeFerry x = new UnlikeFerry();
        int[][] wrong = {{-1, 0}, {2, 0}, {3, 0}, {0, -1}, {0, 10}, {1, -1}, {1, 10}, {2, 10}};
        for (int[] w : wrong) {
            DUE.is("price(" + w[0] + ", " + w[1] + ")", x.price(w[0], w[1]), -1);
        }
        for (int far : Due.FAR) {
            DUE.is("price(" + far + ", 0)", x.price(far, 0), -1);
            DUE.is("price(0, " + far + ")", x.price(0, far), -1);
            DUE.is("price(1, " + far + ")", x.price(1, far), -1);
        }
        DUE.is("rule(2)", x.rule(2), 1);
        DUE.is("rule(3)", x.rule(3), 1);
    }

    private static void badOnes(String call, IntUnaryOperator asked) {
        for (int p : new int[] {-1, 6, 7, 8, 9}) {
            DUE.is(call + "(" + p + ")", asked.applyAsInt(p), -1);
        }
        for (int far : Due.FAR) {
            DUE.is(call + "(" + far + ")", asked.applyAsInt(far), -1);
        }
    }

    private static void comes() {
        UnlikeFerry x = Due.fiveWays();
        DUE.says(14, "BAD");
        badOnes("come", x::come);
        DUE.says(14, "STATE: he is not TO COME");
        for (int p = 1; p < 6; p++) {
            int is = x.one(p, 6);
            DUE.is("come(" + p + ")", x.come(p), -2);
            DUE.is("one(" + p + ", 6)", x.one(p, 6), is);
        }
        DUE.says(14, "A ONE comes now: how many WAIT then");
        DUE.is("come(0)", x.come(0), 2);
        DUE.is("one(0, 6)", x.one(0, 6), 1);
        DUE.is("one(0, 5), his hour stays", x.one(0, 5), 9);
        UnlikeFerry y = Due.told("jack0 0 0 0 0;".repeat(9));
        for (int p = 8; p >= 0; p--) {
            DUE.is("come(" + p + ")", y.come(p), 9 - p);
        }
    }

    private static void leaves() {
        UnlikeFerry x = Due.fiveWays();
        DUE.says(15, "BAD");
        badOnes("leave", x::leave);
        DUE.says(15, "STATE: he does not WAIT");
        for (int p : new int[] {0, 2, 3, 4, 5}) {
            int is = x.one(p, 6);
            DUE.is("leave(" + p + ")", x.leave(p), -2);
            DUE.is("one(" + p + ", 6)", x.one(p, 6), is);
        }
        DUE.says(15, "A ONE GIVES UP now: how many WAIT then");
        DUE.is("leave(1), the last", x.leave(1), 0);
        DUE.is("one(1, 6)", x.one(1, 6), 4);
        DUE.is("one(1, 4), his patience stays", x.one(1, 4), 9);
        DUE.is("rule(9)", x.rule(9), 18);
        UnlikeFerry y = Due.allHere("jack0 0 0 0 0;".repeat(9));
        DUE.is("leave(8) of nine", y.leave(8), 8);
    }

    private static void boardRefused() {
        UnlikeFerry x = Due.fiveWays();
        DUE.says(16, "BAD");
        badOnes("board", x::board);
        DUE.says(16, "STATE: he does not WAIT");
        for (int p : new int[] {0, 2, 3, 4, 5}) {
            int is = x.one(p, 6);
            DUE.is("board(" + p + ")", x.board(p), -2);
            DUE.is("one(" + p + ", 6)", x.one(p, 6), is);
        }
        DUE.is("rule(5)", x.rule(5), 1);
        DUE.termsSay("the first that fits: STATE ahead of NONE, board()");
        UnlikeFerry y = Due.told("plain0 0 0 9 9;".repeat(6) + "seats 2;here 2;here 4;");
        y.board(2);
        y.leave(4);
        DUE.is("to come, alike", y.board(0), -2);
        DUE.is("aboard", y.board(2), -2);
        DUE.is("gave up, alike", y.board(4), -2);
    }

    private static void boardAlike() {
        DUE.says(16, "NONE: he is ALIKE with one ABOARD");
        String[] others = {"plain 0 1 1 0 0;", "plain 1 0 1 0 0;", "plain 1 1 0 0 0;", "plain 1 1 1 0 0;"};
        for (int i = 0; i < others.length; i++) {
            UnlikeFerry x = Due.allHere("plain 0 0 0 0 0;" + others[i]);
            DUE.is("board(0)", x.board(0), 1);
            DUE.is("board(1) of " + others[i], x.board(1), i < 3 ? -4 : 2);
            DUE.is("rule(6)", x.rule(6), i < 3 ? 2 : 0);
            DUE.is("rule(7)", x.rule(7), i < 3 ? 1 : 3);
        }
        DUE.says(16, "ALIKE with one of several; with one who WAITS, SAILED, GAVE UP, is TO COME he can");
        UnlikeFerry x = Due.told("plain 0 0 0 0 0;plain 1 1 1 0 0;plain 2 2 1 0 0;plain 1 3 3 0 0;plain 1 4 4 0 0;"
            + "seats 3;here 0;here 1;here 2;here 3;");
        x.board(0);
        x.board(1);
        DUE.is("board(2), alike with the second", x.board(2), -4);
        DUE.is("board(3), alike with the second", x.board(3), -4);
        UnlikeFerry y = Due.told("plain 0 0 0 9 9;plain 0 1 1 9 9;plain 0 2 2 9 9;plain 0 3 3 9 9;plain 5 5 5 9 9;"
            + "seats 2;here 1;here 2;here 3;here 4;");
        y.board(2);
        y.board(4);
        y.leave(3);
        y.come(0);
        DUE.is("board(1), all alike are elsewhere", y.board(1), 1);
    }

    private static void boardFull() {
        DUE.says(16, "A ONE BOARDS: how many are ABOARD then; are SEATS ABOARD now, the boat sails");
        for (int seats = 2; seats <= 5; seats++) {
            UnlikeFerry x = Due.allHere("admiral0 0 0 9 0;".repeat(6) + "seats " + seats + ";");
            for (int p = 0; p < seats; p++) {
                DUE.is("rule(5), " + seats + " seats", x.rule(5), 0);
                DUE.is("board(" + p + "), " + seats + " seats", x.board(p), p + 1 < seats ? p + 1 : 0);
            }
            DUE.is("rule(5)", x.rule(5), 1);
            DUE.is("rule(7), nobody is ABOARD", x.rule(7), 0);
            DUE.is("rule(8), they have SAILED", x.rule(8), (1 << seats) - 1);
            DUE.is("rule(6), the others WAIT", x.rule(6), 63 - ((1 << seats) - 1));
            DUE.is("board(5), the next boat", x.board(5), 1);
        }
    }
}
