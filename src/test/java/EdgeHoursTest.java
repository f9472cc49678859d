/** The boundary cases of promises 17 to 20: hours. */
final class EdgeHoursTest {
    private static final Due DUE = new Due();

    public static void main(String[] args) {
        goRefused();
        goNone();
        goFull();
        goFarBoats();
        comeInIt();
        once();
        giveUp();
        patienceOfOthers();
        aheadRefused();
        aheadNone();
        aheadMost();
        aheadNeverFull();
        aheadChangesNothing();
        whenRefused();
        whenAtOnce();
        whenNever();
        blocksRefused();
        blocksNobody();
        blocksWhoever();
        DUE.finish("EdgeHoursTest");
    }

    private static void goRefused() {
        DUE.says(17, "n HOURS go (0 to 30) .. BAD");
        UnlikeFerry x = Due.fiveWays();
        DUE.is("go(-1)", x.go(-1), -1);
        DUE.is("go(31)", x.go(31), -1);
        for (int far : Due.FAR) {
            DUE.is("go(" + far + ")", x.go(far), -1);
        }
        DUE.is("rule(4)", x.rule(4), 0);
        DUE.is("one(1, 4)", x.one(1, 4), 9);
    }

    private static void goNone() {
        DUE.says(17, "0 HOURS: nothing goes on");
        UnlikeFerry x = Due.told("plain 0 0 0 0 0;plain 1 1 1 0 0;seats 2;here 0;");
        DUE.is("go(0)", x.go(0), 0);
        DUE.is("rule(4)", x.rule(4), 0);
        DUE.is("rule(6)", x.rule(6), 1);
        DUE.is("one(1, 6)", x.one(1, 6), 0);
        DUE.is("go(1)", x.go(1), 1);
        DUE.is("rule(4)", x.rule(4), 1);
    }

    private static UnlikeFerry atHour(int hour) {
        UnlikeFerry x = Due.told("plain 0 0 0 9 0;");
        for (int left = hour; left > 0; left -= 30) {
            x.go(Math.min(left, 30));
        }
        return x;
    }

    private static void goFull() {
        DUE.says(17, "FULL: HOUR would be 1000 or more");
        for (int hour = 968; hour <= 999; hour++) {
            UnlikeFerry x = atHour(hour);
            DUE.is("rule(4)", x.rule(4), hour);
            for (int n = 30; n >= 0; n--) {
                if (hour + n >= 1000) {
                    DUE.is("hour " + hour + ", go(" + n + ")", x.go(n), -3);
                    DUE.is("hour " + hour + ", rule(4)", x.rule(4), hour);
                }
            }
            int most = Math.min(30, 999 - hour);
            DUE.is("hour " + hour + ", go(" + most + ")", x.go(most), 0);
            DUE.is("hour " + hour + ", rule(4)", x.rule(4), hour + most);
        }
        DUE.termsSay("the first that fits: BAD ahead of FULL, go()");
        UnlikeFerry x = atHour(999);
        DUE.is("go(31)", x.go(31), -1);
        DUE.is("go(-1)", x.go(-1), -1);
        DUE.is("go(0)", x.go(0), 0);
        DUE.is("go(1)", x.go(1), -3);
        DUE.is("rule(7), aboard still", x.rule(7), 1);
    }

    private static void goFarBoats() {
        DUE.says(17, "how many BOATS sail in them, and in no HOURS else");
        UnlikeFerry x = Due.told("admiral0 0 0 9 0;".repeat(9) + "seats2;");
        DUE.is("go(1), four in one HOUR", x.go(1), 4);
        DUE.is("rule(5)", x.rule(5), 4);
        DUE.is("rule(7), the ninth", x.rule(7), 256);
        DUE.is("go(30)", x.go(30), 0);
        DUE.is("rule(5)", x.rule(5), 4);
        UnlikeFerry y = Due.fiveWays();
        DUE.is("a boat sailed ahead of it", y.go(1), 1);
        DUE.is("rule(5)", y.rule(5), 2);
    }

    private static void comeInIt() {
        DUE.termsSay("ONES TO COME who COME in it WAIT; then .. each who can BOARD does");
        for (int comes = 0; comes <= 9; comes++) {
            UnlikeFerry x = Due.told("plain 0 0 0 0 " + comes + ";");
            DUE.is("comes " + comes + ", go(" + comes + ")", x.go(comes), 0);
            DUE.is("comes " + comes + ", to come still", x.one(0, 6), 0);
            x.go(1);
            DUE.is("comes " + comes + ", aboard in it", x.one(0, 6), 2);
            DUE.is("comes " + comes + ", one(0, 4)", x.one(0, 4), 0);
        }
        UnlikeFerry x = Due.told("plain 0 0 0 9 3;plain 1 1 1 9 3;seats 2;");
        x.come(0);
        x.leave(0);
        DUE.is("go(4), one gave up ahead of his hour", x.go(4), 0);
        DUE.is("one(0, 6)", x.one(0, 6), 4);
        DUE.is("one(1, 6)", x.one(1, 6), 2);
    }

    private static void once() {
        DUE.termsSay("by order each who can BOARD does (once through)");
        // 2 fills the boat of 0; then 1 could board, but the round is past him.
        UnlikeFerry x = Due.told("plain 0 0 0 9 0;plain 0 1 1 9 0;plain 2 2 2 9 0;seats 2;");
        DUE.is("go(1)", x.go(1), 1);
        DUE.is("rule(6)", x.rule(6), 2);
        DUE.is("rule(7)", x.rule(7), 0);
        DUE.is("one(1, 4)", x.one(1, 4), 8);
        x.go(1);
        DUE.is("rule(7), an HOUR later", x.rule(7), 2);
        DUE.is("one(1, 4)", x.one(1, 4), 8);
        DUE.termsSay("by order: the first is aboard, not the last");
        UnlikeFerry y = Due.told("plain 0 0 0 9 0;plain 0 1 1 9 0;plain 0 2 2 9 0;");
        y.go(1);
        DUE.is("rule(7)", y.rule(7), 1);
        DUE.is("rule(6)", y.rule(6), 6);
    }

    private static void giveUp() {
        DUE.termsSay("then each who WAITS has 1 PATIENCE less, or, if it is 0, GAVE UP");
        for (int patience = 0; patience <= 9; patience++) {
            UnlikeFerry x = Due.told("plain 0 0 0 0 0;plain 0 1 1 " + patience + " 0;");
            for (int left = patience - 1; left >= 0; left--) {
                x.go(1);
                DUE.is("patience " + patience + ", one(1, 4)", x.one(1, 4), left);
                DUE.is("patience " + patience + ", he waits", x.one(1, 6), 1);
            }
            x.go(1);
            DUE.is("patience " + patience + ", he gave up", x.one(1, 6), 4);
            DUE.is("patience " + patience + ", one(1, 4)", x.one(1, 4), 0);
            DUE.is("rule(4)", x.rule(4), patience + 1);
            x.go(30);
            DUE.is("later, one(1, 6)", x.one(1, 6), 4);
            DUE.is("later, one(1, 4)", x.one(1, 4), 0);
            DUE.is("he aboard stays", x.one(0, 6), 2);
        }
    }

    private static void patienceOfOthers() {
        DUE.termsSay("each who WAITS: no PATIENCE goes from those TO COME, ABOARD, who SAILED, GAVE UP");
        UnlikeFerry x = Due.told("plain 0 0 0 5 9;plain 2 1 1 6 0;plain 2 2 2 7 0;plain 3 3 3 8 0;plain 4 4 4 9 0;"
            + "plain 5 5 5 4 0;seats 2;here 1;here 2;here 3;here 4;here 5;");
        x.board(3);
        x.board(5);
        x.board(2);
        x.leave(4);
        x.go(1);
        int[] due = {5, 5, 7, 8, 9, 4};
        for (int p = 0; p < due.length; p++) {
            DUE.is("one(" + p + ", 4)", x.one(p, 4), due[p]);
        }
        int[] are = {0, 1, 2, 3, 4, 3};
        for (int p = 0; p < are.length; p++) {
            DUE.is("one(" + p + ", 6)", x.one(p, 6), are[p]);
        }
        DUE.termsSay("each who WAITS, up to the last of nine");
        UnlikeFerry nine = Due.told("plain0 0 0 1 0;".repeat(9));
        for (int hours = 1; hours <= 2; hours++) {
            nine.go(1);
            for (int p = 0; p < 9; p++) {
                DUE.is(hours + " hours, one(" + p + ", 4)", nine.one(p, 4), p == 0 ? 1 : 0);
                DUE.is(hours + " hours, one(" + p + ", 6)", nine.one(p, 6), p == 0 ? 2 : hours == 1 ? 1 : 4);
            }
        }
    }

    private static void aheadRefused() {
        DUE.says(18, "BAD");
        UnlikeFerry x = Due.fiveWays();
        int[][] wrong = {{-1, 0}, {31, 0}, {0, -1}, {0, 5}, {30, 5}, {31, 4}, {-1, 4}, {31, 5}};
        for (int[] w : wrong) {
            DUE.is("ahead(" + w[0] + ", " + w[1] + ")", x.ahead(w[0], w[1]), -1);
        }
        for (int far : Due.FAR) {
            DUE.is("ahead(" + far + ", 0)", x.ahead(far, 0), -1);
            DUE.is("ahead(0, " + far + ")", x.ahead(0, far), -1);
        }
    }

    private static long[] ahead(UnlikeFerry x, int n) {
        return new long[] {x.ahead(n, 0), x.ahead(n, 1), x.ahead(n, 2), x.ahead(n, 3), x.ahead(n, 4)};
    }

    private static void aheadNone() {
        DUE.says(18, "Behind n HOURS (0 ..): all is as it is");
        UnlikeFerry x = Due.fiveWays();
        DUE.are("ahead(0)", ahead(x, 0), 0, 2, 4, 40, 16);
        DUE.are("ahead(1)", ahead(x, 1), 1, 0, 0, 46, 16);
        DUE.are("nobody, ahead(0)", ahead(new UnlikeFerry(), 0), 0, 0, 0, 0, 0);
        DUE.are("nobody, ahead(30)", ahead(new UnlikeFerry(), 30), 0, 0, 0, 0, 0);
    }

    private static void aheadMost() {
        DUE.says(18, "Behind n HOURS (.. to 30)");
        UnlikeFerry x = Due.told("plain 0 0 0 0 9;plain 0 1 1 9 9;plain 1 2 2 0 9;plain 3 3 3 0 9;plain 0 4 4 9 0;seats 2;");
        DUE.are("ahead(1)", ahead(x, 1), 0, 0, 16, 0, 0);
        DUE.are("ahead(9)", ahead(x, 9), 0, 0, 16, 0, 0);
        // In HOUR 9: 0 and 1 are alike with 4; 2 fills the boat; 3 is aboard; 0 gives up, 1 waits.
        DUE.are("ahead(10)", ahead(x, 10), 1, 2, 8, 20, 1);
        DUE.are("ahead(11)", ahead(x, 11), 2, 0, 0, 30, 1);
        DUE.are("ahead(30)", ahead(x, 30), 2, 0, 0, 30, 1);
    }

    private static void aheadNeverFull() {
        DUE.says(18, "no FULL: HOUR may be what it will");
        UnlikeFerry x = atHour(999);
        DUE.are("ahead(1), hour 999", ahead(x, 1), 0, 0, 1, 0, 0);
        DUE.are("ahead(30), hour 999", ahead(x, 30), 0, 0, 1, 0, 0);
        DUE.is("when(0), hour 999", x.when(0), -4);
        DUE.is("rule(4)", x.rule(4), 999);
    }

    private static void aheadChangesNothing() {
        DUE.says(18, "Behind n HOURS: they do not go");
        UnlikeFerry x = Due.fiveWays();
        x.ahead(30, 0);
        x.when(1);
        DUE.is("rule(4)", x.rule(4), 0);
        DUE.is("rule(5)", x.rule(5), 1);
        DUE.is("one(1, 4)", x.one(1, 4), 9);
        for (int p = 0; p < 5; p++) {
            DUE.is("one(" + p + ", 6)", x.one(p, 6), p);
        }
    }

    private static void whenRefused() {
        DUE.says(19, "BAD");
        UnlikeFerry x = Due.fiveWays();
        DUE.is("when(-1)", x.when(-1), -1);
        DUE.is("when(6)", x.when(6), -1);
        for (int far : Due.FAR) {
            DUE.is("when(" + far + ")", x.when(far), -1);
        }
    }

    private static void whenAtOnce() {
        DUE.says(19, "Behind how many HOURS (0 ..) a ONE has SAILED first");
        UnlikeFerry x = Due.fiveWays();
        DUE.is("when(3), he has", x.when(3), 0);
        DUE.is("when(2)", x.when(2), 1);
        DUE.is("when(1)", x.when(1), 1);
        UnlikeFerry y = Due.told("plain 0 0 0 9 9;plain 0 1 1 9 9;plain 1 2 2 0 9;plain 3 3 3 0 9;plain 0 4 4 9 0;seats 2;");
        DUE.is("when(4), in the tenth HOUR", y.when(4), 10);
        DUE.is("when(2)", y.when(2), 10);
        DUE.is("when(3)", y.when(3), 11);
        y.go(10);
        DUE.is("when(4), ten HOURS later", y.when(4), 0);
        DUE.is("when(3), ten HOURS later", y.when(3), 1);
    }

    private static void whenNever() {
        DUE.says(19, "NONE: behind none");
        UnlikeFerry x = Due.fiveWays();
        DUE.is("when(4), he gave up", x.when(4), -4);
        DUE.is("when(0), the last alone", x.when(0), -4);
        DUE.is("one alone", Due.told("admiral 0 0 0 9 0;").when(0), -4);
        UnlikeFerry y = Due.told("plain 0 0 0 9 0;plain 0 1 1 9 0;seats 2;");
        DUE.is("when(0), aboard for ever", y.when(0), -4);
        DUE.is("when(1), he gives up", y.when(1), -4);
    }

    private static void blocksRefused() {
        DUE.says(20, "BAD");
        UnlikeFerry x = Due.fiveWays();
        DUE.is("blocks(-1)", x.blocks(-1), -1);
        DUE.is("blocks(6)", x.blocks(6), -1);
        for (int far : Due.FAR) {
            DUE.is("blocks(" + far + ")", x.blocks(far), -1);
        }
    }

    private static void blocksNobody() {
        DUE.says(20, "Those ABOARD: nobody, if none is");
        UnlikeFerry x = Due.allHere("plain0 0 0 9 0;".repeat(9));
        for (int p = 0; p < 9; p++) {
            DUE.is("blocks(" + p + ")", x.blocks(p), 0);
        }
        x.board(8);
        for (int p = 0; p < 9; p++) {
            DUE.is("8 aboard, blocks(" + p + ")", x.blocks(p), p == 8 ? 0 : 256);
        }
    }

    private static void blocksWhoever() {
        DUE.says(20, "with whom a ONE is ALIKE (bits), whatever he is");
        UnlikeFerry x = Due.fiveWays();
        x.turn(0, 0, 2);
        x.turn(1, 1, 2);
        x.turn(3, 2, 2);
        x.turn(4, 0, 2);
        int[] due = {4, 4, 0, 4, 4, 0};
        for (int p = 0; p < due.length; p++) {
            DUE.is("blocks(" + p + ")", x.blocks(p), due[p]);
        }
        UnlikeFerry y = Due.told("plain 0 0 0 9 0;plain 1 1 1 9 0;plain 0 1 2 9 0;plain 0 0 0 9 0;here 0;here 1;here 3;");
        y.board(0);
        y.board(1);
        DUE.is("blocks(2), two", y.blocks(2), 3);
        DUE.is("blocks(3), one of two", y.blocks(3), 1);
        y.teach(2, 2);
        DUE.is("blocks(2), an admiral", y.blocks(2), 0);
    }
}
