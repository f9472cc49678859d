/** Promises 28 and 29: odds. */
final class OddsTest {
    private static final Due DUE = new Due();

    public static void main(String[] args) {
        two();
        oneAboard();
        fourAdmirals();
        nineAdmirals();
        wrong();
        DUE.finish("OddsTest");
    }

    private static void odds(UnlikeFerry x, int v, long part, long whole) {
        DUE.is("odds(" + v + ", 0)", x.odds(v, 0), part);
        DUE.is("odds(" + v + ", 1)", x.odds(v, 1), whole);
    }

    private static void mean(UnlikeFerry x, int v, long part, long whole) {
        DUE.is("mean(" + v + ", 0)", x.mean(v, 0), part);
        DUE.is("mean(" + v + ", 1)", x.mean(v, 1), whole);
    }

    private static void two() {
        UnlikeFerry x = Due.told("plain 0 0 0 0 0;plain 1 1 1 0 0;seats 2;here 0;here 1;");
        odds(x, 5, 1, 4);
        odds(x, 3, 49, 100);
        odds(x, 0, 1, 1);
        odds(x, 10, 0, 1);
        mean(x, 5, 1, 4);
        mean(x, 10, 0, 1);
        DUE.is("nobody went away", x.rule(6), 3);
    }

    private static void oneAboard() {
        UnlikeFerry x = Due.told(BoatsTest.FOUR);
        x.board(3);
        // 3 stays; a FILLING needs 1 or 2 beside him, whoever else is left.
        odds(x, 5, 3, 4);
        odds(x, 3, 91, 100);
        // Both 0 with 1 and 2 with 3: 2 boats if all stay; one of 1, 2 alone: a boat.
        mean(x, 5, 7, 8);
        mean(x, 10, 0, 1);
        mean(x, 0, 2, 1);
    }

    private static void fourAdmirals() {
        UnlikeFerry x = Due.allHere("admiral0 0 0 0 0;".repeat(4) + "seats 2;");
        odds(x, 5, 11, 16);
        mean(x, 5, 3, 4);
    }

    private static void nineAdmirals() {
        UnlikeFerry x = Due.allHere("admiral0 0 0 0 0;".repeat(9));
        x.seats(5);
        odds(x, 1, 24977727L, 25000000L);
        x.seats(2);
        mean(x, 1, 7356339L, 1953125L);
        mean(x, 3, 11327869L, 3906250L);
    }

    private static void wrong() {
        UnlikeFerry x = new UnlikeFerry();
        odds(x, 5, 0, 1);
        mean(x, 5, 0, 1);
        DUE.is("odds(11, 0)", x.odds(11, 0), -1);
        DUE.is("odds(-1, 0)", x.odds(-1, 0), -1);
        DUE.is("odds(0, 2)", x.odds(0, 2), -1);
        DUE.is("odds(0, -1)", x.odds(0, -1), -1);
        DUE.is("mean(11, 0)", x.mean(11, 0), -1);
        DUE.is("mean(-1, 0)", x.mean(-1, 0), -1);
        DUE.is("mean(0, 2)", x.mean(0, 2), -1);
        DUE.is("mean(0, -1)", x.mean(0, -1), -1);
    }
}
