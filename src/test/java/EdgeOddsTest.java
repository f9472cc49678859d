/** The boundary cases of promises 28 and 29: odds, means, and fractions in lowest terms. */
final class EdgeOddsTest {
    private static final Due DUE = new Due();

    public static void main(String[] args) {
        refused();
        nobody();
        lowestTerms();
        noneGoesAllGo();
        aboardStay();
        anyTwo();
        manyWait();
        someWait();
        fillingsAlone();
        DUE.finish("EdgeOddsTest");
    }

    private static void odds(String when, UnlikeFerry x, int v, long part, long whole) {
        DUE.is(when + ", odds(" + v + ", 0)", x.odds(v, 0), part);
        DUE.is(when + ", odds(" + v + ", 1)", x.odds(v, 1), whole);
    }

    private static void mean(String when, UnlikeFerry x, int v, long part, long whole) {
        DUE.is(when + ", mean(" + v + ", 0)", x.mean(v, 0), part);
        DUE.is(when + ", mean(" + v + ", 1)", x.mean(v, 1), whole);
    }

    private static void refused() {
        int[][] wrong = {{-1, 0}, {11, 0}, {-1, 1}, {11, 1}, {0, -1}, {0, 2}, {10, 2}, {11, 2}};
        for (UnlikeFerry x : new UnlikeFerry[] {new UnlikeFerry(), Due.fiveWays()}) {
            DUE.says(28, "by v out of ten (0 to 10) .. BAD");
            for (int[] w : wrong) {
                DUE.is("odds(" + w[0] + ", " + w[1] + ")", x.odds(w[0], w[1]), -1);
            }
            for (int far : Due.FAR) {
                DUE.is("odds(" + far + ", 0)", x.odds(far, 0), -1);
                DUE.is("odds(5, " + far + ")", x.odds(5, far), -1);
            }
            DUE.says(29, "Likewise .. BAD");
            for (int[] w : wrong) {
                DUE.is("mean(" + w[0] + ", " + w[1] + ")", x.mean(w[0], w[1]), -1);
            }
            for (int far : Due.FAR) {
                DUE.is("mean(" + far + ", 0)", x.mean(far, 0), -1);
                DUE.is("mean(5, " + far + ")", x.mean(5, far), -1);
            }
        }
    }

    private static void nobody() {
        DUE.termsSay("Fractions are in lowest terms, the denominator above 0 (0 is 0 by 1)");
        UnlikeFerry alone = Due.fiveWays();
        alone.leave(1);
        UnlikeFerry alike = Due.allHere("plain0 0 0 0 0;".repeat(9));
        for (int v = 0; v <= 10; v++) {
            odds("nobody", new UnlikeFerry(), v, 0, 1);
            mean("nobody", new UnlikeFerry(), v, 0, 1);
            odds("one is aboard, none waits", alone, v, 0, 1);
            mean("one is aboard, none waits", alone, v, 0, 1);
            odds("nine of one", alike, v, 0, 1);
            mean("nine of one", alike, v, 0, 1);
        }
    }

    private static void lowestTerms() {
        DUE.termsSay("Fractions are in lowest terms: by one who goes away, or not");
        int[][] due = {{1, 1}, {9, 10}, {4, 5}, {7, 10}, {3, 5}, {1, 2}, {2, 5}, {3, 10}, {1, 5}, {1, 10}, {0, 1}};
        for (int v = 0; v <= 10; v++) {
            odds("one waits, one is aboard", Due.fiveWays(), v, due[v][0], due[v][1]);
            mean("one waits, one is aboard", Due.fiveWays(), v, due[v][0], due[v][1]);
        }
    }

    private static void noneGoesAllGo() {
        for (int here = 2; here <= 9; here++) {
            UnlikeFerry x = EdgeBoatsTest.lastWait(here);
            for (int seats = 2; seats <= 5; seats++) {
                x.seats(seats);
                String when = here + " here, " + seats + " seats";
                DUE.says(28, "by 0 out of ten none goes away, by 10 all do");
                odds(when, x, 0, here >= seats ? 1 : 0, 1);
                odds(when, x, 10, 0, 1);
                DUE.says(29, "by 0 out of ten none goes away, by 10 all do");
                mean(when, x, 0, here / seats, 1);
                mean(when, x, 10, 0, 1);
            }
        }
    }

    private static void aboardStay() {
        DUE.says(28, "Each who WAITS goes away, no one else");
        UnlikeFerry x = EdgeBoatsTest.lastWait(5);
        x.seats(5);
        odds("five wait", x, 5, 1, 32);
        mean("five wait", x, 5, 1, 32);
        for (int p = 4; p < 8; p++) {
            x.board(p);
            odds("aboard up to " + p, x, 5, 1, 32 >> p - 3);
            mean("aboard up to " + p, x, 5, 1, 32 >> p - 3);
        }
        odds("four are aboard", x, 10, 0, 1);
        UnlikeFerry y = EdgeBoatsTest.lastWait(4);
        y.seats(4);
        y.board(8);
        y.board(7);
        y.board(6);
        odds("three of four are aboard", y, 3, 7, 10);
        DUE.is("nobody went away", y.rule(6), 32);
        DUE.is("nobody went away", y.rule(7), 64 + 128 + 256);
    }

    private static void anyTwo() {
        DUE.says(28, "Each who WAITS .. a FILLING out of those left, whoever he is and whoever is ABOARD");
        String nine = "admiral0 0 0 9 9;".repeat(9);
        for (int aboard = 0; aboard < 9; aboard++) {
            for (int waits = 0; waits < 9; waits++) {
                UnlikeFerry x = Due.told(nine);
                x.come(aboard);
                x.seats(2);
                x.board(aboard);
                boolean two = x.come(waits) == 1;
                String when = aboard + " is aboard, " + waits + " waits";
                odds(when, x, 3, two ? 7 : 0, two ? 10 : 1);
                mean(when, x, 3, two ? 7 : 0, two ? 10 : 1);
            }
        }
    }

    private static void manyWait() {
        UnlikeFerry x = EdgeBoatsTest.lastWait(9);
        x.seats(2);
        DUE.says(28, "nine who WAIT");
        odds("two seats", x, 3, 499783487L, 500000000L);
        odds("two seats", x, 9, 112579511L, 500000000L);
        DUE.says(29, "nine who WAIT, the mean above 1");
        mean("two seats", x, 5, 2, 1);
        x.seats(5);
        odds("five seats", x, 5, 1, 2);
        mean("five seats", x, 5, 1, 2);
    }

    private static void someWait() {
        // Of m who wait, each stays or not by a half: two or more in all but m + 1 of 2 to the m cases.
        for (int here = 2; here <= 9; here++) {
            UnlikeFerry x = EdgeBoatsTest.lastWait(here);
            x.seats(2);
            long all = 1L << here;
            long some = all - here - 1;
            long common = Long.lowestOneBit(some | all);
            DUE.says(28, "Each who WAITS goes away by v out of ten, by himself; those TO COME do not count");
            odds(here + " wait", x, 5, some / common, all / common);
            DUE.says(29, "the mean of the most UNLIKE sets of SEATS out of those left HERE, others TO COME");
            long quarters = here - 1;
            long divisor = Math.min(4, Long.lowestOneBit(quarters));
            mean(here + " wait", x, 5, quarters / divisor, 4 / divisor);
        }
        UnlikeFerry three = EdgeBoatsTest.lastWait(3);
        three.seats(2);
        odds("three wait", three, 3, 98, 125);
        mean("three wait", three, 3, 98, 125);
    }

    private static void fillingsAlone() {
        // 1 and 2 are unlike, 0 is aboard and alike with both.
        UnlikeFerry x = Due.allHere("plain 0 0 0 9 0;plain 0 1 1 9 0;plain 1 0 2 9 0;seats 2;");
        x.board(0);
        DUE.says(28, "that there is a FILLING out of those left");
        odds("0 is aboard", x, 0, 0, 1);
        odds("0 is aboard", x, 5, 0, 1);
        DUE.says(29, "the most UNLIKE sets of SEATS out of those left HERE");
        mean("0 is aboard", x, 0, 1, 1);
        mean("0 is aboard", x, 5, 1, 4);
        mean("0 is aboard", x, 3, 49, 100);
    }
}
