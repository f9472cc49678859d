/** The boundary cases of promises 38 to 40: sheets that are read, their FAULTS, counts. */
final class EdgeReadTest {
    private static final Due DUE = new Due();

    public static void main(String[] args) {
        readRefused();
        readNone();
        readMost();
        readAnyCell();
        machineNull();
        machineCast();
        machineIndex();
        thoseAheadCame();
        refusedByBoard();
        refusedIth();
        noneCame();
        firstMet();
        tornAtFirst();
        tornOfLatest();
        countRefused();
        countBounds();
        countPairs();
        DUE.finish("EdgeReadTest");
    }

    /** Nine admirals who all wait; SHEET 1 tells them by order, in a lane. */
    private static UnlikeFerry nine(int lane, int seats) {
        UnlikeFerry x = EdgeBoatsTest.lastWait(9);
        x.seats(seats);
        x.sheet(1, lane, 9);
        for (int i = 0; i < 9; i++) {
            x.lay(1, i, i);
        }
        return x;
    }

    private static void readRefused() {
        DUE.says(38, "BAD: k, lane, n");
        UnlikeFerry x = nine(1, 5);
        int[][] wrong = {{-1, 1, 0, 1}, {4, 1, 0, 1}, {1, -1, 0, 1}, {1, 3, 0, 1}, {1, 1, 0, -1}, {1, 1, 0, 21}, {4, 3, 99, 21},
            {1, 3, 99, 1}, {0, 3, 0, 1}, {0, 1, 0, 21}, {0, 1, 0, -1}, {4, 1, 0, 0}, {1, 3, 0, 0}};
        for (int[] w : wrong) {
            String call = "read(" + w[0] + ", " + w[1] + ", " + w[2] + ", " + w[3] + ")";
            DUE.is(call, x.read(w[0], w[1], w[2], w[3]), -1);
        }
        for (int far : Due.FAR) {
            DUE.is("read(" + far + ", 1, 0, 1)", x.read(far, 1, 0, 1), -1);
            DUE.is("read(1, " + far + ", 0, 1)", x.read(1, far, 0, 1), -1);
            DUE.is("read(1, 1, 0, " + far + ")", x.read(1, 1, 0, far), -1);
        }
        DUE.is("rule(6)", x.rule(6), 511);
        DUE.is("torn()", x.torn(), 0);
    }

    private static void readNone() {
        DUE.says(38, "n (0 ..) ONES are read: of none there is no FAULT");
        for (int lane = 0; lane < 3; lane++) {
            UnlikeFerry x = nine(1, 5);
            for (int f : new int[] {0, 8, 9, -1, Integer.MIN_VALUE, Integer.MAX_VALUE}) {
                x.read(0, 0, 0, 1);
                DUE.is("NULL ahead of it", x.torn(), 1);
                DUE.is("read(1, " + lane + ", " + f + ", 0)", x.read(1, lane, f, 0), 0);
                DUE.is("torn()", x.torn(), 0);
                x.read(0, 0, 0, 1);
                DUE.is("read(0, " + lane + ", " + f + ", 0), nothing", x.read(0, lane, f, 0), 0);
                DUE.is("torn()", x.torn(), 0);
            }
            DUE.is("rule(6)", x.rule(6), 511);
        }
    }

    private static void readMost() {
        DUE.says(38, "n (.. to 20) ONES are read .. one behind another as by board(): how many came ABOARD");
        for (int lane = 0; lane < 3; lane++) {
            for (int seats = 2; seats <= 5; seats++) {
                UnlikeFerry x = nine(lane, seats);
                DUE.is("read(1, " + lane + ", 0, 9)", x.read(1, lane, 0, 9), 9);
                DUE.is("torn()", x.torn(), 0);
                DUE.is("rule(5)", x.rule(5), 9 / seats);
                DUE.is("rule(7)", Integer.bitCount(x.rule(7)), 9 % seats);
                UnlikeFerry y = nine(lane, seats);
                DUE.is("read(1, " + lane + ", 0, 20)", y.read(1, lane, 0, 20), 9);
                DUE.is("torn()", y.torn(), 2);
                DUE.is("rule(5)", y.rule(5), 9 / seats);
            }
        }
    }

    private static void readAnyCell() {
        DUE.says(38, "from CELL f on");
        for (int f = 0; f < 9; f++) {
            UnlikeFerry x = nine(2, 5);
            DUE.is("read(1, 2, " + f + ", 1)", x.read(1, 2, f, 1), 1);
            DUE.is("rule(7)", x.rule(7), 1 << f);
        }
        UnlikeFerry y = nine(2, 5);
        DUE.is("read(1, 2, 5, 4), up to the last", y.read(1, 2, 5, 4), 4);
        DUE.is("rule(7)", y.rule(7), 32 + 64 + 128 + 256);
        DUE.is("torn()", y.torn(), 0);
    }

    private static void machineNull() {
        DUE.termsSay("A FAULT is what the machine finds: 1 NULL (nothing)");
        UnlikeFerry x = nine(1, 5);
        for (int lane = 0; lane < 3; lane++) {
            for (int f : new int[] {0, -1, 40, Integer.MIN_VALUE, Integer.MAX_VALUE}) {
                x.read(1, 1, 0, 0);
                DUE.is("read(0, " + lane + ", " + f + ", 1)", x.read(0, lane, f, 1), 0);
                DUE.is("torn()", x.torn(), 1);
            }
            DUE.is("read(3, " + lane + ", 0, 20)", x.read(3, lane, 0, 20), 0);
            DUE.is("torn()", x.torn(), 1);
        }
        DUE.is("rule(6)", x.rule(6), 511);
    }

    private static void machineCast() {
        DUE.termsSay("3 CAST (another lane), ahead of INDEX");
        for (int made = 0; made < 3; made++) {
            for (int lane = 0; lane < 3; lane++) {
                for (int f : new int[] {0, 8, 9, -1, Integer.MIN_VALUE, Integer.MAX_VALUE}) {
                    UnlikeFerry x = nine(made, 5);
                    boolean cell = f >= 0 && f < 9;
                    String call = "made of lane " + made + ", read(1, " + lane + ", " + f + ", 1)";
                    DUE.is(call, x.read(1, lane, f, 1), made == lane && cell ? 1 : 0);
                    DUE.is(call + ", torn()", x.torn(), made != lane ? 3 : cell ? 0 : 2);
                    DUE.is(call + ", rule(7)", x.rule(7), made == lane && cell ? 1 << f : 0);
                }
            }
        }
        UnlikeFerry none = new UnlikeFerry();
        none.sheet(0, 0, 0);
        none.read(0, 1, 0, 1);
        DUE.is("a row of no CELLS, torn()", none.torn(), 3);
    }

    private static void machineIndex() {
        DUE.termsSay("2 INDEX");
        UnlikeFerry x = nine(1, 5);
        for (int f : new int[] {-1, -2, -20, 9, 10, 39, 40, Integer.MIN_VALUE, Integer.MAX_VALUE, Integer.MAX_VALUE - 19}) {
            for (int n : new int[] {1, 2, 20}) {
                x.read(1, 1, 0, 0);
                DUE.is("read(1, 1, " + f + ", " + n + ")", x.read(1, 1, f, n), 0);
                DUE.is("torn()", x.torn(), 2);
            }
        }
        DUE.is("rule(6), CELLS behind a wrong one are not read", x.rule(6), 511);
        UnlikeFerry none = new UnlikeFerry();
        none.sheet(0, 0, 0);
        DUE.is("a row of no CELLS", none.read(0, 0, 0, 1), 0);
        DUE.is("torn()", none.torn(), 2);
    }

    private static void thoseAheadCame() {
        DUE.says(38, "What the machine refuses: those ahead came");
        for (int f = 4; f <= 9; f++) {
            UnlikeFerry x = nine(0, 5);
            DUE.is("read(1, 0, " + f + ", 20)", x.read(1, 0, f, 20), 9 - f);
            DUE.is("torn()", x.torn(), 2);
            int came = 511 & ~((1 << f) - 1);
            DUE.is("rule(7)", x.rule(7), f == 4 ? 0 : came);
            DUE.is("rule(8)", x.rule(8), f == 4 ? came : 0);
        }
    }

    private static void refusedByBoard() {
        DUE.says(38, "-20 less i: the i-th is refused by board() (in whichever way)");
        UnlikeFerry x = Due.fiveWays();
        x.turn(1, 0, 2);
        x.sheet(0, 0, 9);
        for (int i = 0; i < 7; i++) {
            x.lay(0, i, i);
        }
        x.lay(0, 7, -1);
        x.lay(0, 8, 127);
        String[] ways = {"STATE, to come", "NONE, alike with 2", "STATE, aboard", "STATE, sailed", "STATE, gave up", "STATE, sailed",
            "BAD, 6", "BAD, -1", "BAD, 127"};
        for (int i = 0; i < ways.length; i++) {
            DUE.is(ways[i], x.read(0, 0, i, 1), -20);
            DUE.is(ways[i] + ", torn()", x.torn(), 0);
        }
        x.turn(1, 0, 1);
        DUE.is("he can board now", x.read(0, 0, 1, 1), 1);
    }

    private static void refusedIth() {
        DUE.says(38, "-20 less i: the i-th, from 0 to the tenth");
        for (int i = 0; i <= 9; i++) {
            for (int seats = 2; seats <= 5; seats++) {
                UnlikeFerry x = EdgeBoatsTest.lastWait(9);
                x.seats(seats);
                x.sheet(2, 2, 20);
                for (int at = 0; at < i; at++) {
                    x.lay(2, at, at);
                }
                x.lay(2, i, 9);
                DUE.is("the " + i + "-th of " + seats + " seats", x.read(2, 2, 0, i + 1), -20 - i);
                DUE.is("and more behind him", x.read(2, 2, 0, 20), -20 - i);
                DUE.is("none came, rule(6)", x.rule(6), 511);
                DUE.is("none sailed, rule(5)", x.rule(5), 0);
                DUE.is("those ahead of him alone", x.read(2, 2, 0, i), i);
            }
        }
    }

    private static void noneCame() {
        DUE.says(38, "then none came: who was ABOARD is, who WAITED waits");
        UnlikeFerry x = Due.fiveWays();
        x.sheet(0, 2, 2);
        x.lay(0, 0, 1);
        x.lay(0, 1, 1);
        DUE.is("1 fills the boat and is read again", x.read(0, 2, 0, 2), -21);
        for (int p = 0; p < 5; p++) {
            DUE.is("one(" + p + ", 6)", x.one(p, 6), p);
        }
        DUE.is("rule(5)", x.rule(5), 1);
    }

    private static void firstMet() {
        DUE.says(38, "the first met");
        UnlikeFerry x = nine(0, 5);
        x.lay(1, 8, 9);
        DUE.is("a wrong ONE in the last CELL, then no CELL", x.read(1, 0, 7, 3), -21);
        DUE.is("torn()", x.torn(), 0);
        DUE.is("rule(6)", x.rule(6), 511);
        DUE.is("CAST ahead of a wrong ONE", x.read(1, 1, 8, 1), 0);
        DUE.is("torn()", x.torn(), 3);
        DUE.is("no CELL ahead of a wrong ONE", x.read(1, 0, -1, 20), 0);
        DUE.is("torn()", x.torn(), 2);
    }

    private static void tornAtFirst() {
        DUE.says(39, "The FAULT of the latest read() that came to an end; 0");
        UnlikeFerry x = nine(0, 2);
        DUE.is("no read() yet", x.torn(), 0);
        x.read(0, 0, 0, 1);
        DUE.is("NULL", x.torn(), 1);
        DUE.is("asked again", x.torn(), 1);
        x.read(1, 0, 9, 1);
        DUE.is("INDEX", x.torn(), 2);
        x.read(1, 2, 0, 1);
        DUE.is("CAST", x.torn(), 3);
        x.read(1, 0, 0, 1);
        DUE.is("no FAULT", x.torn(), 0);
    }

    private static void tornOfLatest() {
        DUE.says(39, "the latest read() that came to an end, not one that is refused, nor another call");
        int[] lanes = {0, 0, 2};
        int[] cells = {0, 9, 0};
        for (int fault = 1; fault <= 3; fault++) {
            UnlikeFerry x = nine(0, 2);
            x.read(fault == 1 ? 0 : 1, lanes[fault - 1], cells[fault - 1], 1);
            DUE.is("torn()", x.torn(), fault);
            x.lay(1, 8, 9);
            DUE.is("refused by board()", x.read(1, 0, 8, 1), -20);
            DUE.is("torn() stays", x.torn(), fault);
            DUE.is("refused behind one who can", x.read(1, 0, 7, 2), -21);
            DUE.is("torn() stays", x.torn(), fault);
            DUE.is("BAD", x.read(1, 0, 0, 21), -1);
            DUE.is("BAD", x.read(4, 0, 0, 1), -1);
            DUE.is("BAD", x.read(1, 3, 0, 1), -1);
            DUE.is("torn() stays", x.torn(), fault);
            x.lay(0, 0, 0);
            x.sheet(2, 0, -1);
            x.sheet(2, 0, 4);
            x.text();
            DUE.is("torn() stays", x.torn(), fault);
        }
    }

    private static void countRefused() {
        DUE.says(40, "BAD");
        for (UnlikeFerry x : new UnlikeFerry[] {new UnlikeFerry(), nine(0, 5)}) {
            DUE.is("count(-1)", x.count(-1), -1);
            DUE.is("count(7)", x.count(7), -1);
            for (int far : Due.FAR) {
                DUE.is("count(" + far + ")", x.count(far), -1);
            }
        }
    }

    private static void countBounds() {
        DUE.says(40, "3 CELLS of SHEET 0 (NONE: nothing)");
        UnlikeFerry x = new UnlikeFerry();
        DUE.is("nothing", x.count(3), -4);
        for (int k = 1; k < 4; k++) {
            x.sheet(k, 0, 5);
            DUE.is("nothing on SHEET 0, some on " + k, x.count(3), -4);
        }
        x.sheet(0, 2, 0);
        DUE.is("no CELLS", x.count(3), 0);
        x.sheet(0, 2, 40);
        DUE.is("40 CELLS", x.count(3), 40);
        DUE.says(40, "How many: each from none to the most");
        UnlikeFerry y = EdgeBoatsTest.lastWait(9);
        DUE.is("who WAIT", y.count(4), 9);
        y.seats(5);
        for (int p = 0; p < 4; p++) {
            DUE.is("who are ABOARD", y.count(5), p);
            y.board(p);
        }
        DUE.is("who are ABOARD", y.count(5), 4);
        DUE.is("who WAIT", y.count(4), 5);
        y.board(4);
        DUE.is("they sailed", y.count(5), 0);
        for (int i = 0; i <= 6; i++) {
            DUE.is("SEEN", y.count(0), i);
            y.see(0, true);
        }
        DUE.is("SEEN", y.count(0), 6);
        Due.feed(y, " ".repeat(170));
        DUE.is("bytes on THE TAPE", y.count(2), 160);
        y.keep(1);
        DUE.is("IMAGES", y.count(1), 1);
        y.keep(1);
        DUE.is("IMAGES", y.count(1), 1);
        y.keep(0);
        DUE.is("IMAGES", y.count(1), 2);
    }

    private static void countPairs() {
        DUE.says(40, "6 pairs of ONES HERE who are ALIKE");
        UnlikeFerry x = Due.told("plain0 0 0 9 9;".repeat(9));
        DUE.is("none is HERE", x.count(6), 0);
        for (int here = 1; here <= 9; here++) {
            x.come(here - 1);
            DUE.is(here + " are HERE", x.count(6), here * (here - 1) / 2);
        }
        x.board(4);
        DUE.is("one is aboard", x.count(6), 36);
        x.leave(0);
        DUE.is("one gave up", x.count(6), 28);
        x.turn(1, 0, 1);
        DUE.is("alike in town and tale still", x.count(6), 28);
        x.teach(1, 2);
        DUE.is("an admiral", x.count(6), 21);
        DUE.is("nine admirals", EdgeBoatsTest.lastWait(9).count(6), 0);
        DUE.is("nobody", new UnlikeFerry().count(6), 0);
    }
}
