import java.math.BigInteger;

/** The boundary cases of promises 30 to 33: who was aboard, boardings by a seed. */
final class EdgeSeenTest {
    private static final int[] SEEDS = {0, 1, -1, 2, 12345, 65535, 65536, -65536, 1 << 30, Integer.MAX_VALUE, Integer.MIN_VALUE};
    private static final Due DUE = new Due();

    public static void main(String[] args) {
        seeRefused();
        seeFull();
        seeTwice();
        forgetRefused();
        forgetFirst();
        fitsRefused();
        fitsNone();
        fitsOfFew();
        fitsAsSeen();
        fitsWhoever();
        driftRefused();
        driftNobody();
        driftFirst();
        driftMany();
        driftWhoCan();
        driftByItself();
        DUE.finish("EdgeSeenTest");
    }

    private static void seeRefused() {
        DUE.says(30, "BAD");
        UnlikeFerry x = Due.fiveWays();
        for (boolean is : new boolean[] {true, false}) {
            DUE.is("see(-1, " + is + ")", x.see(-1, is), -1);
            DUE.is("see(6, " + is + ")", x.see(6, is), -1);
            for (int far : Due.FAR) {
                DUE.is("see(" + far + ", " + is + ")", x.see(far, is), -1);
            }
        }
        DUE.is("count(0)", x.count(0), 0);
        UnlikeFerry nine = EdgeBoatsTest.lastWait(0);
        DUE.is("see(8, true) of nine", nine.see(8, true), 1);
        DUE.is("see(9, true) of nine", nine.see(9, true), -1);
    }

    private static void seeFull() {
        DUE.says(30, "SEEN (6) .. how many are .. FULL");
        UnlikeFerry x = Due.fiveWays();
        for (int p = 0; p < 6; p++) {
            DUE.is("see(" + p + ", false)", x.see(p, false), p + 1);
        }
        DUE.is("see(0, false), the seventh", x.see(0, false), -3);
        DUE.is("see(0, true), the seventh", x.see(0, true), -3);
        DUE.is("count(0)", x.count(0), 6);
        DUE.termsSay("the first that fits: BAD ahead of FULL, see()");
        DUE.is("see(6, true)", x.see(6, true), -1);
        DUE.is("see(-1, false)", x.see(-1, false), -1);
        x.forget(5);
        DUE.is("see(0, true), the sixth again", x.see(0, true), 6);
        DUE.is("see(0, true)", x.see(0, true), -3);
    }

    private static void seeTwice() {
        DUE.says(30, "a ONE was in a boat, or not: the same again is SEEN again");
        UnlikeFerry x = Due.fiveWays();
        DUE.is("see(1, true)", x.see(1, true), 1);
        DUE.is("see(1, true)", x.see(1, true), 2);
        DUE.is("see(1, false)", x.see(1, false), 3);
    }

    private static void forgetRefused() {
        DUE.says(31, "BAD");
        UnlikeFerry x = Due.fiveWays();
        DUE.is("forget(1) of 0", x.forget(1), -1);
        DUE.is("forget(0) of 0", x.forget(0), 0);
        for (int many = 1; many <= 6; many++) {
            x.see(1, true);
            DUE.is("forget(" + (many + 1) + ") of " + many, x.forget(many + 1), -1);
            DUE.is("forget(-1) of " + many, x.forget(-1), -1);
            DUE.is("count(0)", x.count(0), many);
            DUE.is("forget(" + many + ") of " + many, x.forget(many), many);
        }
        for (int far : Due.FAR) {
            DUE.is("forget(" + far + ")", x.forget(far), -1);
        }
        DUE.is("count(0)", x.count(0), 6);
    }

    private static void forgetFirst() {
        DUE.says(31, "SEEN are the first n alone: how many there were");
        UnlikeFerry x = Due.fiveWays();
        // All six are unlike: there are 15 sets of two.
        x.see(0, true);
        x.see(1, false);
        x.see(2, false);
        DUE.is("fits(0), three", x.fits(0), 3);
        DUE.is("forget(2)", x.forget(2), 3);
        DUE.is("fits(0), two", x.fits(0), 4);
        DUE.is("forget(1)", x.forget(1), 2);
        DUE.is("fits(0), one", x.fits(0), 5);
        DUE.is("forget(0)", x.forget(0), 1);
        DUE.is("fits(0), none", x.fits(0), 15);
        DUE.is("forget(0)", x.forget(0), 0);
        DUE.is("see(5, true)", x.see(5, true), 1);
        DUE.is("fits(1)", x.fits(1), 33);
    }

    private static long[] fits(UnlikeFerry x) {
        return new long[] {x.fits(0), x.fits(1), x.fits(2), x.fits(3)};
    }

    private static void fitsRefused() {
        DUE.says(32, "BAD (ahead of NONE)");
        for (UnlikeFerry x : new UnlikeFerry[] {new UnlikeFerry(), Due.fiveWays()}) {
            DUE.is("fits(-1)", x.fits(-1), -1);
            DUE.is("fits(4)", x.fits(4), -1);
            for (int far : Due.FAR) {
                DUE.is("fits(" + far + ")", x.fits(far), -1);
            }
        }
    }

    private static void fitsNone() {
        DUE.says(32, "NONE (1 to 3): there is none");
        DUE.are("nobody", fits(new UnlikeFerry()), 0, -4, -4, -4);
        UnlikeFerry x = Due.fiveWays();
        x.see(0, true);
        x.see(0, false);
        DUE.are("in a boat and not", fits(x), 0, -4, -4, -4);
        x.forget(1);
        x.see(1, true);
        x.see(2, true);
        DUE.are("three in a boat of two", fits(x), 0, -4, -4, -4);
        x.forget(2);
        DUE.are("two in a boat of two", fits(x), 1, 3, 3, 60);
        x.turn(0, 0, 1);
        DUE.are("two who are alike", fits(x), 0, -4, -4, -4);
        UnlikeFerry y = Due.told("plain0 0 0 0 0;".repeat(9));
        DUE.are("nine of one", fits(y), 0, -4, -4, -4);
    }

    private static void fitsOfFew() {
        DUE.says(32, "Sets that FIT .. ONES in all of them (2), in none (3; bits): too few, just enough, all");
        for (int ones = 0; ones <= 9; ones++) {
            UnlikeFerry x = Due.told("admiral0 0 0 9 0;".repeat(ones));
            for (int seats = 2; seats <= 5; seats++) {
                x.seats(seats);
                String when = ones + " ones, " + seats + " seats";
                int least = (1 << seats) - 1;
                if (ones < seats) {
                    DUE.are(when, fits(x), 0, -4, -4, -4);
                } else {
                    DUE.are(when, fits(x), EdgeBoatsTest.choose(ones, seats), least, ones == seats ? least : 0, 0);
                }
            }
        }
    }

    private static void fitsAsSeen() {
        DUE.termsSay("FITS, if all is as SEEN");
        UnlikeFerry x = Due.told("admiral0 0 0 9 0;".repeat(9));
        x.see(8, true);
        DUE.are("8 was", fits(x), 28, 259, 256, 0);
        x.see(0, false);
        DUE.are("0 was not", fits(x), 21, 262, 256, 1);
        x.see(8, true);
        x.see(0, false);
        DUE.are("the same again", fits(x), 21, 262, 256, 1);
        x.see(1, false);
        x.see(2, true);
        DUE.are("six are SEEN", fits(x), 5, 268, 260, 3);
    }

    private static void fitsWhoever() {
        DUE.termsSay("An UNLIKE set of SEATS, out of all TRAVELLERS, whatever they are");
        UnlikeFerry x = Due.fiveWays();
        DUE.are("six who are unlike", fits(x), 15, 3, 0, 0);
        x.turn(0, 0, 1);
        x.turn(0, 1, 2);
        x.turn(0, 2, 3);
        x.turn(4, 0, 5);
        DUE.are("0 is alike with 1, 2, 3; 4 with 5", fits(x), 11, 6, 0, 0);
        x.turn(4, 0, 1);
        DUE.are("4 is alike with 0 and 1, not 5", fits(x), 10, 6, 0, 0);
        x.turn(5, 0, 1);
        DUE.are("0 is alike with all, 5 with 1 and 4 too", fits(x), 7, 6, 0, 1);
    }

    private static void driftRefused() {
        DUE.says(33, "n times (1 to 60) .. BAD");
        UnlikeFerry x = EdgeBoatsTest.lastWait(9);
        int[][] wrong = {{0, 0}, {61, 0}, {-1, 0}, {0, 1}, {61, 1}, {1, -1}, {1, 2}, {60, 2}, {61, 2}};
        for (int[] w : wrong) {
            DUE.is("drift(1, " + w[0] + ", " + w[1] + ")", x.drift(1, w[0], w[1]), -1);
        }
        for (int far : Due.FAR) {
            DUE.is("drift(1, " + far + ", 0)", x.drift(1, far, 0), -1);
            DUE.is("drift(1, 1, " + far + ")", x.drift(1, 1, far), -1);
        }
    }

    private static void driftNobody() {
        DUE.says(33, "STATE: there is nobody");
        UnlikeFerry x = new UnlikeFerry();
        for (int what = 0; what <= 1; what++) {
            DUE.is("drift(1, 1, " + what + ")", x.drift(1, 1, what), -2);
            DUE.is("drift(1, 60, " + what + ")", x.drift(1, 60, what), -2);
        }
        UnlikeFerry y = Due.fiveWays();
        y.text();
        DUE.is("a text of nobody, drift(1, 1, 0)", y.drift(1, 1, 0), -2);
        DUE.termsSay("the first that fits: BAD ahead of STATE, drift()");
        DUE.is("drift(1, 0, 0)", x.drift(1, 0, 0), -1);
        DUE.is("drift(1, 61, 0)", x.drift(1, 61, 0), -1);
        DUE.is("drift(1, 1, 2)", x.drift(1, 1, 2), -1);
        DUE.says(33, "there is somebody, though none WAITS");
        DUE.is("drift(1, 60, 0)", EdgeBoatsTest.lastWait(0).drift(1, 60, 0), 0);
        DUE.is("drift(1, 60, 1)", EdgeBoatsTest.lastWait(0).drift(1, 60, 1), 0);
    }

    /** Over numbers without a bound, and all that wraps around cut off at the last. */
    private static int drawn(int seed, int n, int ones) {
        BigInteger s = BigInteger.valueOf(seed);
        for (int i = 0; i < n; i++) {
            s = s.multiply(BigInteger.valueOf(1103515245)).add(BigInteger.valueOf(12345));
        }
        return s.shiftRight(16).and(BigInteger.valueOf(32767)).intValue() % ones;
    }

    private static void driftFirst() {
        DUE.says(33, "the seed becomes seed times 1103515245 and 12345; bits 16 to 30 of it modulo TRAVELLERS");
        for (int ones = 1; ones <= 9; ones++) {
            UnlikeFerry x = Due.allHere("admiral0 0 0 9 0;".repeat(ones));
            for (int seed : SEEDS) {
                DUE.is(ones + " ones, drift(" + seed + ", 1, 1)", x.drift(seed, 1, 1), 1 << drawn(seed, 1, ones));
                DUE.is(ones + " ones, drift(" + seed + ", 1, 0)", x.drift(seed, 1, 0), 0);
            }
        }
        // By hand: 0 becomes 12345, whose bits 16 to 30 are 0; -1 becomes -1103502900, whose are 15929.
        UnlikeFerry nine = EdgeBoatsTest.lastWait(9);
        DUE.is("drift(0, 1, 1)", nine.drift(0, 1, 1), 1);
        DUE.is("drift(-1, 1, 1)", nine.drift(-1, 1, 1), 1 << 15929 % 9);
    }

    private static void driftMany() {
        DUE.says(33, "n times (1 to 60), one behind another: BOATS that sail (what 0), who are ABOARD then (1; bits)");
        for (int seed : SEEDS) {
            UnlikeFerry x = EdgeBoatsTest.lastWait(9);
            x.seats(2);
            int left = 511;
            int aboard = 0;
            int boats = 0;
            for (int n = 1; n <= 60; n++) {
                int one = 1 << drawn(seed, n, 9);
                if ((left & one) != 0) {
                    left -= one;
                    boats += aboard == 0 ? 0 : 1;
                    aboard = aboard == 0 ? one : 0;
                }
                if (n < 5 || n > 55) {
                    DUE.is("drift(" + seed + ", " + n + ", 0)", x.drift(seed, n, 0), boats);
                    DUE.is("drift(" + seed + ", " + n + ", 1)", x.drift(seed, n, 1), aboard);
                }
            }
        }
    }

    private static void driftWhoCan() {
        DUE.says(33, "that ONE BOARDS, if he WAITS and can");
        UnlikeFerry x = Due.fiveWays();
        for (int seed = 0; seed < 60; seed++) {
            // 1 alone waits: with 2, who is aboard, he fills the boat; all others stay as they are.
            boolean first = drawn(seed, 1, 6) == 1;
            DUE.is("drift(" + seed + ", 1, 0)", x.drift(seed, 1, 0), first ? 1 : 0);
            DUE.is("drift(" + seed + ", 1, 1)", x.drift(seed, 1, 1), first ? 0 : 4);
        }
        x.turn(1, 2, 2);
        DUE.is("1 is alike with 2, drift(1, 60, 0)", x.drift(1, 60, 0), 0);
        DUE.is("1 is alike with 2, drift(1, 60, 1)", x.drift(1, 60, 1), 4);
    }

    private static void driftByItself() {
        DUE.says(33, "By itself");
        UnlikeFerry x = EdgeBoatsTest.lastWait(9);
        int boats = x.drift(7, 60, 0);
        DUE.is("again", x.drift(7, 60, 0), boats);
        DUE.is("rule(5)", x.rule(5), 0);
        DUE.is("rule(6)", x.rule(6), 511);
        DUE.is("rule(7)", x.rule(7), 0);
        DUE.is("BOATS that sailed ahead of it do not count", Due.fiveWays().drift(0, 1, 0), 0);
    }
}
