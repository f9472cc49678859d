/** The boundary cases of promises 34 to 37: images, new sheets, what is laid on them. */
final class EdgeSheetTest {
    private static final Due DUE = new Due();

    public static void main(String[] args) {
        keepRefused();
        keepAgain();
        keepNobody();
        backRefused();
        backNone();
        backAll();
        backOfTwo();
        imagesGone();
        sheetRefused();
        sheetSizes();
        sheetBelowNone();
        sheetAnew();
        layRefused();
        layNull();
        layIndex();
        layLowestBits();
        DUE.finish("EdgeSheetTest");
    }

    private static void keepRefused() {
        DUE.says(34, "IMAGE k (0, 1) .. BAD");
        UnlikeFerry x = Due.fiveWays();
        DUE.is("keep(-1)", x.keep(-1), -1);
        DUE.is("keep(2)", x.keep(2), -1);
        for (int far : Due.FAR) {
            DUE.is("keep(" + far + ")", x.keep(far), -1);
        }
        DUE.is("count(1)", x.count(1), 0);
    }

    private static void keepAgain() {
        DUE.says(34, "whether there was one (1, 0)");
        UnlikeFerry x = Due.fiveWays();
        DUE.is("keep(1)", x.keep(1), 0);
        DUE.is("keep(0), 1 is another", x.keep(0), 0);
        DUE.is("keep(0)", x.keep(0), 1);
        DUE.is("keep(1)", x.keep(1), 1);
        DUE.is("count(1)", x.count(1), 2);
        x.back(0);
        DUE.is("keep(0), it stays behind back()", x.keep(0), 1);
        DUE.says(34, "a new IMAGE in place of the old");
        x.seats(5);
        x.keep(0);
        x.seats(4);
        x.back(0);
        DUE.is("rule(1)", x.rule(1), 5);
    }

    private static void keepNobody() {
        DUE.says(34, "IMAGE k is TRAVELLERS (all of them): of nobody, of nine");
        UnlikeFerry x = new UnlikeFerry();
        x.seats(5);
        DUE.is("keep(0)", x.keep(0), 0);
        x.seats(2);
        DUE.is("back(0)", x.back(0), 0);
        DUE.is("rule(0)", x.rule(0), 0);
        DUE.is("rule(1)", x.rule(1), 5);
        UnlikeFerry nine = EdgeBoatsTest.lastWait(9);
        nine.keep(1);
        for (int p = 0; p < 9; p++) {
            nine.teach(p, 0);
            nine.leave(p);
        }
        DUE.is("back(1)", nine.back(1), 0);
        for (int p = 0; p < 9; p++) {
            DUE.is("one(" + p + ", 0)", nine.one(p, 0), 2);
            DUE.is("one(" + p + ", 6)", nine.one(p, 6), 1);
        }
    }

    private static void backRefused() {
        DUE.says(35, "BAD (ahead of STATE)");
        UnlikeFerry x = Due.fiveWays();
        for (int times = 0; times < 2; times++) {
            DUE.is("back(-1)", x.back(-1), -1);
            DUE.is("back(2)", x.back(2), -1);
            for (int far : Due.FAR) {
                DUE.is("back(" + far + ")", x.back(far), -1);
            }
            x.keep(0);
            x.keep(1);
        }
    }

    private static void backNone() {
        DUE.says(35, "STATE: there is none");
        UnlikeFerry x = Due.fiveWays();
        DUE.is("back(0)", x.back(0), -2);
        DUE.is("back(1)", x.back(1), -2);
        x.keep(1);
        DUE.is("back(0), 1 is another", x.back(0), -2);
        DUE.is("back(1)", x.back(1), 0);
        UnlikeFerry y = Due.fiveWays();
        y.keep(0);
        DUE.is("back(1), 0 is another", y.back(1), -2);
        for (int p = 0; p < 5; p++) {
            DUE.is("one(" + p + ", 6)", y.one(p, 6), p);
        }
    }

    private static void backAll() {
        DUE.says(35, "All is as IMAGE k: HOUR");
        UnlikeFerry x = Due.fiveWays();
        x.go(9);
        x.keep(0);
        int[] rules = new int[10];
        int[] ones = new int[42];
        for (int what = 0; what < 10; what++) {
            rules[what] = x.rule(what);
        }
        for (int i = 0; i < 42; i++) {
            ones[i] = x.one(i / 7, i % 7);
        }
        for (int p = 0; p < 6; p++) {
            for (int what = 0; what < 3; what++) {
                x.turn(p, what, 1);
            }
            x.teach(p, 3);
            x.calm(p, 2);
        }
        x.go(30);
        x.seats(5);
        x.price(0, 7);
        x.price(1, 8);
        DUE.is("back(0)", x.back(0), 9);
        for (int what = 0; what < 10; what++) {
            DUE.is("rule(" + what + ")", x.rule(what), rules[what]);
        }
        for (int i = 0; i < 42; i++) {
            DUE.is("one(" + i / 7 + ", " + i % 7 + ")", x.one(i / 7, i % 7), ones[i]);
        }
        DUE.is("back(0) again", x.back(0), 9);
    }

    private static void backOfTwo() {
        DUE.says(35, "IMAGES are what was, and change by keep() alone");
        UnlikeFerry x = Due.fiveWays();
        x.keep(0);
        x.go(30);
        x.keep(1);
        DUE.is("back(0)", x.back(0), 0);
        x.teach(1, 4);
        x.go(1);
        DUE.is("back(0) again", x.back(0), 0);
        DUE.is("one(1, 0)", x.one(1, 0), 0);
        DUE.is("one(1, 6)", x.one(1, 6), 1);
        DUE.is("back(1)", x.back(1), 30);
        x.go(1);
        DUE.is("back(1) again", x.back(1), 30);
        DUE.says(35, "what no IMAGE holds stays: SEEN, SHEETS, THE TAPE");
        UnlikeFerry y = Due.fiveWays();
        y.keep(0);
        y.see(1, true);
        y.sheet(0, 1, 7);
        y.feed(32);
        y.read(1, 0, 0, 1);
        y.back(0);
        DUE.is("count(0)", y.count(0), 1);
        DUE.is("count(1)", y.count(1), 1);
        DUE.is("count(2)", y.count(2), 1);
        DUE.is("count(3)", y.count(3), 7);
        DUE.is("torn()", y.torn(), 1);
    }

    private static void imagesGone() {
        DUE.termsSay("A text that is taken .. IMAGES are gone");
        UnlikeFerry x = Due.fiveWays();
        x.keep(0);
        x.keep(1);
        Due.tell(x, "plain 0 0 0 0 0 $");
        DUE.is("a text with a FAULT, count(1)", x.count(1), 2);
        DUE.is("back(0)", x.back(0), 0);
        Due.tell(x, "plain 0 0 0 0 0;");
        DUE.is("count(1)", x.count(1), 0);
        DUE.is("back(0)", x.back(0), -2);
        DUE.is("back(1)", x.back(1), -2);
        DUE.is("keep(1), there was none", x.keep(1), 0);
        DUE.is("count(1)", x.count(1), 1);
    }

    private static void sheetRefused() {
        DUE.says(36, "BAD: also n above 40");
        UnlikeFerry x = new UnlikeFerry();
        int[][] wrong = {{-1, 0, 1}, {4, 0, 1}, {0, -1, 1}, {0, 3, 1}, {0, 0, 41}, {0, 1, 41}, {0, 2, 41}, {3, 2, 41}};
        for (int[] w : wrong) {
            DUE.is("sheet(" + w[0] + ", " + w[1] + ", " + w[2] + ")", x.sheet(w[0], w[1], w[2]), -1);
        }
        for (int far : Due.FAR) {
            DUE.is("sheet(" + far + ", 0, 1)", x.sheet(far, 0, 1), -1);
            DUE.is("sheet(0, " + far + ", 1)", x.sheet(0, far, 1), -1);
            DUE.is("sheet(0, 0, " + far + ")", x.sheet(0, 0, far), far < 0 ? -14 : -1);
        }
        DUE.termsSay("the first that fits: BAD ahead of SIZE, sheet()");
        DUE.is("sheet(4, 0, -1)", x.sheet(4, 0, -1), -1);
        DUE.is("sheet(-1, 0, -1)", x.sheet(-1, 0, -1), -1);
        DUE.is("sheet(0, 3, -1)", x.sheet(0, 3, -1), -1);
        DUE.is("sheet(0, -1, -1)", x.sheet(0, -1, -1), -1);
        for (int k = 0; k < 4; k++) {
            DUE.is("nothing still, lay(" + k + ", 0, 0)", x.lay(k, 0, 0), -11);
        }
    }

    private static void sheetSizes() {
        DUE.termsSay("SHEETS 0 to 3 are rows of BYTES (lane 0), SHORTS (1), INTS (2) with 0 to 40 CELLS");
        for (int lane = 0; lane < 3; lane++) {
            UnlikeFerry x = new UnlikeFerry();
            for (int n = 0; n <= 40; n++) {
                DUE.is("sheet(0, " + lane + ", " + n + ")", x.sheet(0, lane, n), 1);
                DUE.is("count(3)", x.count(3), n);
                DUE.is("the last CELL", x.lay(0, n - 1, 0), n == 0 ? -12 : 1);
                DUE.is("one beyond", x.lay(0, n, 0), -12);
            }
            for (int k = 1; k < 4; k++) {
                DUE.is("lay(" + k + ", 0, 0), nothing", x.lay(k, 0, 0), -11);
                DUE.is("sheet(" + k + ", " + lane + ", 40)", x.sheet(k, lane, 40), 1);
                DUE.is("lay(" + k + ", 39, 0)", x.lay(k, 39, 0), 1);
            }
        }
    }

    private static void sheetBelowNone() {
        DUE.says(36, "-10 - 4");
        for (int lane = 0; lane < 3; lane++) {
            UnlikeFerry x = Due.fiveWays();
            for (int n : new int[] {-1, -2, -40, -41, Integer.MIN_VALUE}) {
                for (int k = 0; k < 4; k++) {
                    DUE.is("sheet(" + k + ", " + lane + ", " + n + ")", x.sheet(k, lane, n), -14);
                }
            }
            DUE.is("count(3), nothing still", x.count(3), -4);
            x.sheet(0, 1, 2);
            x.lay(0, 1, 1);
            DUE.is("sheet(0, " + lane + ", -1)", x.sheet(0, lane, -1), -14);
            DUE.is("count(3), the old row stays", x.count(3), 2);
            DUE.is("its lane and CELLS stay", x.read(0, 1, 1, 1), 1);
            DUE.is("torn()", x.torn(), 0);
        }
    }

    private static void sheetAnew() {
        DUE.says(36, "A SHEET is a new row of CELLS 0: 1");
        for (int lane = 0; lane < 3; lane++) {
            UnlikeFerry x = Due.told("admiral0 0 0 9 0;");
            x.come(0);
            x.sheet(3, lane, 40);
            for (int i = 0; i < 40; i++) {
                x.lay(3, i, 5);
            }
            DUE.is("ONE 5 is not there", x.read(3, lane, 39, 1), -20);
            x.sheet(3, lane, 1);
            x.sheet(3, lane, 40);
            x.keep(0);
            for (int i = 0; i < 40; i++) {
                DUE.is("CELL " + i + " is 0", x.read(3, lane, i, 1), 1);
                x.back(0);
            }
        }
        DUE.says(36, "a new row of another lane, the others stay");
        UnlikeFerry y = Due.fiveWays();
        y.sheet(0, 0, 3);
        y.sheet(1, 1, 4);
        y.sheet(0, 2, 5);
        DUE.is("count(3)", y.count(3), 5);
        DUE.is("lay(1, 3, 0)", y.lay(1, 3, 0), 1);
        DUE.is("lay(1, 4, 0)", y.lay(1, 4, 0), -12);
        y.read(0, 0, 0, 1);
        DUE.is("CAST as of its old lane", y.torn(), 3);
    }

    private static void layRefused() {
        DUE.says(37, "BAD: k");
        UnlikeFerry x = new UnlikeFerry();
        for (int times = 0; times < 2; times++) {
            DUE.is("lay(-1, 0, 0)", x.lay(-1, 0, 0), -1);
            DUE.is("lay(4, 0, 0)", x.lay(4, 0, 0), -1);
            DUE.is("lay(4, -1, 0)", x.lay(4, -1, 0), -1);
            for (int far : Due.FAR) {
                DUE.is("lay(" + far + ", 0, 0)", x.lay(far, 0, 0), -1);
            }
            for (int k = 0; k < 4; k++) {
                x.sheet(k, 0, 1);
            }
        }
    }

    private static void layNull() {
        DUE.says(37, "-10 less the FAULT: NULL (ahead of INDEX)");
        UnlikeFerry x = new UnlikeFerry();
        for (int k = 0; k < 4; k++) {
            for (int i : new int[] {0, -1, 40, Integer.MIN_VALUE, Integer.MAX_VALUE}) {
                DUE.is("lay(" + k + ", " + i + ", 0)", x.lay(k, i, 0), -11);
            }
        }
    }

    private static void layIndex() {
        DUE.says(37, "-10 less the FAULT: .. INDEX");
        for (int n : new int[] {0, 1, 2, 39, 40}) {
            UnlikeFerry x = new UnlikeFerry();
            x.sheet(2, 1, n);
            for (int i = -2; i <= 42; i++) {
                DUE.is(n + " cells, lay(2, " + i + ", 1)", x.lay(2, i, 1), i >= 0 && i < n ? 1 : -12);
            }
            DUE.is("lay(2, MIN, 1)", x.lay(2, Integer.MIN_VALUE, 1), -12);
            DUE.is("lay(2, MAX, 1)", x.lay(2, Integer.MAX_VALUE, 1), -12);
            DUE.is("torn(), lay() is no read()", x.torn(), 0);
        }
    }

    private static void layLowestBits() {
        DUE.says(37, "CELL i of a SHEET becomes v (its lowest bits): 1");
        int[] values = {0, 8, 9, -1, 127, 128, 255, 256, 257, 264, 265, -248, -256, 32767, 32768, 65535, 65536, 65544, 65545,
            -65528, 0x01000003, Integer.MAX_VALUE, Integer.MIN_VALUE, Integer.MIN_VALUE + 8};
        for (int lane = 0; lane < 3; lane++) {
            for (int v : values) {
                UnlikeFerry x = EdgeBoatsTest.lastWait(9);
                x.sheet(1, lane, 3);
                DUE.is("lay(1, 1, " + v + ")", x.lay(1, 1, v), 1);
                int cell = lane == 0 ? (byte) v : lane == 1 ? (short) v : v;
                boolean is = cell >= 0 && cell < 9;
                DUE.is("lane " + lane + ", " + v + " is read", x.read(1, lane, 1, 1), is ? 1 : -20);
                DUE.is("lane " + lane + ", " + v + ", rule(7)", x.rule(7), is ? 1 << cell : 0);
                DUE.is("the CELL ahead of it is 0", x.read(1, lane, 0, 1), cell == 0 ? -20 : 1);
            }
        }
    }
}
