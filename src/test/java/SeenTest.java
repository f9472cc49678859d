/** Promises 30 to 33: who was aboard, boardings by a seed. */
final class SeenTest {
    private static final Due DUE = new Due();

    public static void main(String[] args) {
        seesAndForgets();
        whatFits();
        drifts();
        driftsAlone();
        DUE.finish("SeenTest");
    }

    private static void seesAndForgets() {
        UnlikeFerry x = Due.told(BoatsTest.FOUR);
        DUE.is("see(-1, true)", x.see(-1, true), -1);
        DUE.is("see(4, true)", x.see(4, true), -1);
        for (int i = 1; i <= 6; i++) {
            DUE.is("see, time " + i, x.see(3, i % 2 == 0), i);
        }
        DUE.is("see, time 7", x.see(0, true), -3);
        DUE.is("see(4, true), full", x.see(4, true), -1);
        DUE.is("count(0)", x.count(0), 6);
        DUE.is("forget(7)", x.forget(7), -1);
        DUE.is("forget(-1)", x.forget(-1), -1);
        DUE.is("forget(6)", x.forget(6), 6);
        DUE.is("forget(2)", x.forget(2), 6);
        DUE.is("forget(3)", x.forget(3), -1);
        DUE.is("forget(0)", x.forget(0), 2);
        DUE.is("forget(0) again", x.forget(0), 0);
    }

    private static void fits(UnlikeFerry x, String when, int... due) {
        for (int what = 0; what < 4; what++) {
            DUE.is(when + ", fits(" + what + ")", x.fits(what), due[what]);
        }
    }

    private static void whatFits() {
        UnlikeFerry x = Due.told("plain 0 0 0 9 0;plain 1 1 1 9 0;plain 0 2 2 9 0;plain 3 0 3 9 0;seats 2;");
        fits(x, "nothing seen, nobody here", 4, 3, 0, 0);
        x.see(0, false);
        fits(x, "not 0", 3, 6, 0, 1);
        x.see(2, true);
        fits(x, "2, not 0", 2, 6, 4, 1);
        x.see(3, false);
        fits(x, "2, not 0, not 3", 1, 6, 6, 9);
        x.see(0, true);
        fits(x, "0 and not 0", 0, -4, -4, -4);
        x.forget(2);
        fits(x, "2, not 0, the rest forgotten", 2, 6, 4, 1);
        x.forget(0);
        x.seats(3);
        fits(x, "three seats", 1, 14, 14, 1);
        x.seats(5);
        fits(x, "five seats", 0, -4, -4, -4);
        DUE.is("fits(4)", x.fits(4), -1);
        DUE.is("fits(-1)", x.fits(-1), -1);
    }

    private static void drifts() {
        UnlikeFerry x = Due.told(BoatsTest.FOUR);
        // By seed 1 the numbers are 16838, 5758, 10113, 17515, 31051, 5627, 23010, 7419, 16212: of four 2 2 1 3 3 3 2 3 0.
        int[] boats = {0, 0, 1, 1, 1, 1, 1, 1, 1};
        int[] aboard = {4, 4, 0, 8, 8, 8, 8, 8, 8};
        for (int n = 1; n <= 9; n++) {
            DUE.is("drift(1, " + n + ", 0)", x.drift(1, n, 0), boats[n - 1]);
            DUE.is("drift(1, " + n + ", 1)", x.drift(1, n, 1), aboard[n - 1]);
        }
        DUE.is("drift(-1, 1, 1)", x.drift(-1, 1, 1), 2);
        DUE.is("drift(1, 60, 0)", x.drift(1, 60, 0), 1);
        DUE.is("drift(1, 0, 0)", x.drift(1, 0, 0), -1);
        DUE.is("drift(1, 61, 0)", x.drift(1, 61, 0), -1);
        DUE.is("drift(1, 1, 2)", x.drift(1, 1, 2), -1);
        DUE.is("drift(1, 1, -1)", x.drift(1, 1, -1), -1);
    }

    private static void driftsAlone() {
        UnlikeFerry nobody = new UnlikeFerry();
        DUE.is("nobody, drift(1, 1, 0)", nobody.drift(1, 1, 0), -2);
        DUE.is("nobody, drift(1, 0, 0)", nobody.drift(1, 0, 0), -1);
        UnlikeFerry x = Due.told(BoatsTest.FOUR);
        x.drift(1, 60, 0);
        DUE.is("boats as they were", x.rule(5), 0);
        DUE.is("waiting as they were", x.rule(6), 15);
        x.board(1);
        DUE.is("1 is aboard, drift(1, 1, 0)", x.drift(1, 1, 0), 1);
        x.board(0);
        DUE.is("a boat has sailed", x.rule(5), 1);
        DUE.is("drift(1, 1, 0), boats by it alone", x.drift(1, 1, 0), 0);
        DUE.is("drift(1, 4, 0)", x.drift(1, 4, 0), 1);
        DUE.is("nobody waits", Due.told("plain 0 0 0 0 0;").drift(7, 60, 1), 0);
    }
}
