/** The boundary cases of promises 21 to 27: boats. */
final class EdgeBoatsTest {
    private static final Due DUE = new Due();

    public static void main(String[] args) {
        mostRefused();
        mostOfFew();
        mostWithoutOne();
        mostHere();
        setsRefused();
        setsOfFew();
        setsNone();
        setsInNone();
        fillRefused();
        fillNone();
        fillAllAboard();
        letRefused();
        letNone();
        letFirst();
        letOnlyWho();
        letMostBoats();
        DUE.finish("EdgeBoatsTest");
    }

    /** Nine admirals, of whom the last some wait: any set of them is unlike. */
    static UnlikeFerry lastWait(int some) {
        UnlikeFerry x = Due.told("admiral0 0 0 9 0;".repeat(9));
        for (int p = 9 - some; p < 9; p++) {
            x.come(p);
        }
        return x;
    }

    static int choose(int from, int some) {
        return some == 0 ? 1 : from == 0 ? 0 : choose(from - 1, some - 1) + choose(from - 1, some);
    }

    private static void mostRefused() {
        DUE.says(21, "UNLIKE sets of n (2 to 5) .. BAD");
        for (UnlikeFerry x : new UnlikeFerry[] {new UnlikeFerry(), Due.fiveWays(), lastWait(9)}) {
            for (int n : new int[] {1, 6, 0, 7, 9}) {
                DUE.is("most(" + n + ")", x.most(n), -1);
            }
            for (int far : Due.FAR) {
                DUE.is("most(" + far + ")", x.most(far), -1);
            }
        }
    }

    private static void mostOfFew() {
        DUE.says(21, "The most UNLIKE sets of n, no ONE in two: too few, just enough, all");
        for (int here = 0; here <= 9; here++) {
            UnlikeFerry x = lastWait(here);
            for (int n = 2; n <= 5; n++) {
                DUE.is(here + " here, most(" + n + ")", x.most(n), here / n);
            }
        }
        UnlikeFerry same = Due.allHere("plain0 0 0 0 0;".repeat(9));
        for (int n = 2; n <= 5; n++) {
            DUE.is("nine of one, most(" + n + ")", same.most(n), 0);
            DUE.is("nobody, most(" + n + ")", new UnlikeFerry().most(n), 0);
        }
    }

    private static void mostWithoutOne() {
        DUE.says(21, "UNLIKE sets: one who is ALIKE with all others is in none, be he the first or the last");
        String[] unlike = {"plain 0 0 0 9 0;", "plain 1 1 1 9 0;", "plain 2 2 2 9 0;"};
        for (int p = 0; p <= 3; p++) {
            StringBuilder text = new StringBuilder();
            for (int q = 0; q <= 3; q++) {
                text.append(q == p ? "plain 0 1 2 9 0;" : unlike[q < p ? q : q - 1]);
            }
            UnlikeFerry x = Due.allHere(text.toString());
            DUE.is(p + " fits nobody, most(2)", x.most(2), 1);
            DUE.is(p + " fits nobody, most(3)", x.most(3), 1);
            DUE.is(p + " fits nobody, most(4)", x.most(4), 0);
            DUE.is(p + " fits nobody, let(1)", x.let(1), 1);
            DUE.is(p + " fits nobody, mean(0, 0)", x.mean(0, 0), 1);
        }
    }

    private static void mostHere() {
        DUE.says(21, "out of all HERE: those who WAIT or are ABOARD");
        UnlikeFerry x = Due.fiveWays();
        DUE.is("one waits, one is aboard, most(2)", x.most(2), 1);
        DUE.is("most(3)", x.most(3), 0);
        x.come(0);
        DUE.is("one more came, most(3), other than SEATS", x.most(3), 1);
        x.leave(0);
        x.leave(1);
        DUE.is("one is aboard alone, most(2)", x.most(2), 0);
        DUE.is("rule(1), SEATS stay", x.rule(1), 2);
    }

    private static long[] sets(UnlikeFerry x) {
        return new long[] {x.sets(0), x.sets(1), x.sets(2), x.sets(3)};
    }

    private static void setsRefused() {
        DUE.says(22, "BAD");
        for (UnlikeFerry x : new UnlikeFerry[] {new UnlikeFerry(), Due.fiveWays(), lastWait(9)}) {
            DUE.is("sets(-1)", x.sets(-1), -1);
            DUE.is("sets(4)", x.sets(4), -1);
            for (int far : Due.FAR) {
                DUE.is("sets(" + far + ")", x.sets(far), -1);
            }
        }
    }

    private static void setsOfFew() {
        DUE.says(22, "UNLIKE sets of SEATS out of all HERE: just enough, one more, all");
        for (int here = 2; here <= 9; here++) {
            UnlikeFerry x = lastWait(here);
            int first = 9 - here;
            for (int seats = 2; seats <= Math.min(5, here); seats++) {
                x.seats(seats);
                int least = (1 << seats) - 1 << first;
                int inAll = here == seats ? least : 0;
                DUE.are(here + " here, " + seats + " seats", sets(x), choose(here, seats), least, inAll, 0);
            }
        }
        DUE.are("one waits, one is aboard", sets(Due.fiveWays()), 1, 6, 6, 0);
    }

    private static void setsNone() {
        DUE.says(22, "NONE (1 to 3): there is none");
        DUE.are("nobody", sets(new UnlikeFerry()), 0, -4, -4, -4);
        for (int here = 0; here <= 4; here++) {
            UnlikeFerry x = lastWait(here);
            for (int seats = Math.max(2, here + 1); seats <= 5; seats++) {
                x.seats(seats);
                DUE.are(here + " here, " + seats + " seats", sets(x), 0, -4, -4, -4);
            }
        }
        UnlikeFerry same = Due.allHere("plain0 0 0 0 0;".repeat(9));
        same.seats(2);
        DUE.are("nine of one", sets(same), 0, -4, -4, -4);
    }

    private static void setsInNone() {
        DUE.says(22, "ONES in all of them (2), ONES HERE in none (3; bits)");
        // 0 is to come; 1 is alike with 2, 3 and 4, who are unlike; 5 gave up.
        UnlikeFerry x = Due.told("plain 5 5 5 0 0;plain 0 1 2 0 0;plain 0 0 0 0 0;plain 1 1 1 0 0;plain 2 2 2 0 0;"
            + "plain 4 4 4 0 0;seats 2;here 1;here 2;here 3;here 4;here 5;");
        x.leave(5);
        DUE.are("three sets", sets(x), 3, 12, 0, 2);
        x.board(3);
        DUE.are("3 is aboard: sets, not FILLINGS", sets(x), 3, 12, 0, 2);
        x.seats(3);
        DUE.are("three seats", sets(x), 1, 28, 28, 2);
        x.leave(4);
        x.seats(2);
        DUE.are("4 gave up", sets(x), 1, 12, 12, 2);
    }

    private static void fillRefused() {
        DUE.says(23, "BAD");
        for (UnlikeFerry x : new UnlikeFerry[] {new UnlikeFerry(), Due.fiveWays(), lastWait(9)}) {
            DUE.is("fill(-1)", x.fill(-1), -1);
            DUE.is("fill(2)", x.fill(2), -1);
            for (int far : Due.FAR) {
                DUE.is("fill(" + far + ")", x.fill(far), -1);
            }
        }
    }

    private static void fillNone() {
        DUE.says(23, "NONE (1): there is none");
        DUE.is("nobody, fill(0)", new UnlikeFerry().fill(0), 0);
        DUE.is("nobody, fill(1)", new UnlikeFerry().fill(1), -4);
        for (int here = 0; here <= 4; here++) {
            UnlikeFerry x = lastWait(here);
            x.seats(5);
            DUE.is(here + " here, fill(0)", x.fill(0), 0);
            DUE.is(here + " here, fill(1)", x.fill(1), -4);
        }
        UnlikeFerry y = Due.fiveWays();
        y.leave(1);
        DUE.is("none waits, one is aboard, fill(0)", y.fill(0), 0);
        DUE.is("none waits, one is aboard, fill(1)", y.fill(1), -4);
        // 1 and 2 are an UNLIKE set, but not with 0, who is aboard.
        UnlikeFerry z = Due.allHere("plain 0 0 0 9 0;plain 0 1 1 9 0;plain 1 0 2 9 0;seats 2;");
        DUE.is("nobody aboard, fill(1)", z.fill(1), 6);
        z.board(0);
        DUE.is("sets(0)", z.sets(0), 1);
        DUE.is("0 aboard, fill(0)", z.fill(0), 0);
        DUE.is("0 aboard, fill(1)", z.fill(1), -4);
    }

    private static void fillAllAboard() {
        DUE.termsSay("A FILLING: an UNLIKE set of SEATS out of all HERE, all who are ABOARD in it");
        for (int aboard = 0; aboard <= 4; aboard++) {
            for (int here = 5; here <= 9; here++) {
                UnlikeFerry x = lastWait(here);
                x.seats(5);
                int set = 0;
                for (int p = 8; p > 8 - aboard; p--) {
                    x.board(p);
                    set |= 1 << p;
                }
                int rest = (1 << 5 - aboard) - 1 << 9 - here;
                String when = here + " here, " + aboard + " aboard, ";
                DUE.is(when + "fill(0)", x.fill(0), choose(here - aboard, 5 - aboard));
                DUE.is(when + "fill(1)", x.fill(1), set | rest);
            }
        }
    }

    private static void letRefused() {
        DUE.says(24, "BAD (ahead of NONE)");
        for (UnlikeFerry x : new UnlikeFerry[] {new UnlikeFerry(), Due.fiveWays(), lastWait(9)}) {
            DUE.is("let(-1)", x.let(-1), -1);
            DUE.is("let(2)", x.let(2), -1);
            for (int far : Due.FAR) {
                DUE.is("let(" + far + ")", x.let(far), -1);
            }
        }
    }

    private static void lets(String when, UnlikeFerry x, int who, int boats) {
        DUE.is(when + ", let(0)", x.let(0), who);
        DUE.is(when + ", let(1)", x.let(1), boats);
    }

    private static void letNone() {
        DUE.says(24, "NONE: there is no FILLING with one who WAITS");
        lets("nobody", new UnlikeFerry(), -4, -4);
        for (int here = 0; here <= 4; here++) {
            UnlikeFerry x = lastWait(here);
            x.seats(5);
            lets(here + " here", x, -4, -4);
        }
        UnlikeFerry y = Due.fiveWays();
        lets("one waits, one is aboard", y, 1, 1);
        y.leave(1);
        lets("none waits, one is aboard", y, -4, -4);
        // 1 and 2 would fill a boat, but 0 is aboard.
        UnlikeFerry z = Due.allHere("plain 0 0 0 9 0;plain 0 1 1 9 0;plain 1 0 2 9 0;seats 2;");
        lets("nobody is aboard", z, 1, 1);
        z.board(0);
        lets("0 is aboard, alike with both", z, -4, -4);
    }

    private static void letFirst() {
        DUE.says(24, "most boats are filled, of several the first (what 0), how many these are (1)");
        for (int here = 2; here <= 9; here++) {
            for (int seats = 2; seats <= Math.min(5, here); seats++) {
                UnlikeFerry x = lastWait(here);
                x.seats(seats);
                lets(here + " here, " + seats + " seats", x, 9 - here, here / seats);
                x.board(9 - here);
                lets("the first is aboard", x, 10 - here, here / seats);
            }
        }
    }

    private static void letOnlyWho() {
        DUE.says(24, "The ONE who WAITS .. by a FILLING with him");
        // 0 is alike with 2, who is aboard; 1 and 3 are not.
        UnlikeFerry x = Due.allHere("plain 0 0 0 9 0;plain 1 1 1 9 0;plain 0 2 2 9 0;plain 3 3 3 9 0;seats 2;");
        x.board(2);
        lets("2 is aboard", x, 1, 2);
        x.leave(0);
        lets("0 gave up", x, 1, 1);
        DUE.says(24, "and then by the most sets of SEATS out of all others HERE");
        // 0 with 1 leaves 2 and 3, who are alike; 0 with 2 or with 3 leaves an unlike pair.
        UnlikeFerry y = Due.allHere("plain 0 0 0 9 0;plain 1 1 1 9 0;plain 2 2 2 9 0;plain 2 3 3 9 0;seats 2;");
        y.board(0);
        lets("0 is aboard", y, 2, 2);
        y.leave(3);
        lets("3 gave up: one boat by 1 or 2", y, 1, 1);
        // 0 with 3 leaves 1 and 2, who are alike; 0 with 1 or with 2 leaves an unlike pair.
        UnlikeFerry z = Due.allHere("plain 0 0 0 9 0;plain 1 1 1 9 0;plain 1 2 2 9 0;plain 3 3 3 9 0;seats 2;");
        z.board(0);
        lets("0 is aboard", z, 1, 2);
    }

    private static void letMostBoats() {
        DUE.says(24, "most boats are filled: the first of those by whom most are, not of all by whom one is");
        // 0 fits only with 3 and 4, and of the four others no three are unlike; 1, 2, 3 leave 4, 5, 6.
        UnlikeFerry x = Due.allHere("plain 0 0 0 9 0;plain 0 1 1 9 0;plain 1 0 2 9 0;plain 2 2 3 9 0;plain 3 3 4 9 0;"
            + "plain 4 1 0 9 0;plain 0 4 2 9 0;");
        DUE.is("0 is in a FILLING", x.last(8 + 16) & 1, 1);
        lets("two boats without 0", x, 1, 2);
        x.leave(6);
        lets("6 gave up: one boat", x, 0, 1);
        // With 3 aboard, 0 fits by 4 alone, 1 by 2 and by 4.
        UnlikeFerry y = Due.allHere("plain 0 0 0 9 0;plain 0 1 1 9 0;plain 1 0 2 9 0;plain 2 2 3 9 0;plain 3 3 4 9 0;"
            + "plain 4 1 0 9 0;plain 0 4 2 9 0;");
        y.board(3);
        lets("3 is aboard", y, 1, 2);
        y.leave(5);
        lets("3 is aboard, 5 gave up", y, 0, 1);
    }
}
