/** The boundary cases of promises 6 to 8, and who are ALIKE: each KIND with each KIND. */
final class EdgeLikeTest {
    private static final String[] KINDS = {"plain", "liar", "admiral", "nameless", "jack"};
    /** What of a KIND does not count: TRADE is 1, TOWN 2, TALE 4. */
    private static final int[] LACKS = {0, 4, 7, 2, 1};
    private static final Due DUE = new Due();

    public static void main(String[] args) {
        rulesRefused();
        onesRefused();
        ninth();
        eachWay();
        alikeRefused();
        notHimself();
        kindWithKind();
        wherever();
        DUE.finish("EdgeLikeTest");
    }

    private static void rulesRefused() {
        DUE.says(6, "BAD");
        for (UnlikeFerry x : new UnlikeFerry[] {new UnlikeFerry(), Due.fiveWays()}) {
            DUE.is("rule(-1)", x.rule(-1), -1);
            DUE.is("rule(10)", x.rule(10), -1);
            for (int what : Due.FAR) {
                DUE.is("rule(" + what + ")", x.rule(what), -1);
            }
        }
        DUE.says(6, "0 TRAVELLERS .. 9 who GAVE UP (bits each)");
        UnlikeFerry x = Due.fiveWays();
        int[] due = {6, 2, 1, 1, 0, 1, 2, 4, 40, 16};
        for (int what = 0; what < due.length; what++) {
            DUE.is("rule(" + what + ")", x.rule(what), due[what]);
        }
    }

    private static void onesRefused() {
        DUE.says(7, "BAD");
        UnlikeFerry x = Due.fiveWays();
        for (int what = 0; what <= 6; what++) {
            DUE.is("one(-1, " + what + ")", x.one(-1, what), -1);
            DUE.is("one(6, " + what + ")", x.one(6, what), -1);
        }
        for (int p = 0; p < 6; p++) {
            DUE.is("one(" + p + ", -1)", x.one(p, -1), -1);
            DUE.is("one(" + p + ", 7)", x.one(p, 7), -1);
        }
        for (int far : Due.FAR) {
            DUE.is("one(" + far + ", 0)", x.one(far, 0), -1);
            DUE.is("one(0, " + far + ")", x.one(0, far), -1);
        }
        DUE.is("one(8, 0) of six", x.one(8, 0), -1);
        Due.tell(x, "plain 0 0 0 0 0;");
        DUE.is("one(1, 0), he was told once", x.one(1, 0), -1);
    }

    private static void ninth() {
        DUE.says(7, "Of a ONE: the last of nine");
        UnlikeFerry x = Due.told("jack0 0 0 0 0;".repeat(8) + "liar 5 4 3 9 8;");
        int[] row = {1, 5, 4, 3, 9, 8, 0};
        for (int what = 0; what < row.length; what++) {
            DUE.is("one(8, " + what + ")", x.one(8, what), row[what]);
            DUE.is("one(9, " + what + ")", x.one(9, what), -1);
        }
    }

    private static void eachWay() {
        DUE.says(7, "6 what he is (0 TO COME .. 4)");
        UnlikeFerry x = Due.fiveWays();
        for (int p = 0; p < 5; p++) {
            DUE.is("one(" + p + ", 6)", x.one(p, 6), p);
        }
    }

    private static void alikeRefused() {
        DUE.says(8, "BAD");
        UnlikeFerry x = Due.fiveWays();
        DUE.is("alike(-1)", x.alike(-1), -1);
        DUE.is("alike(6)", x.alike(6), -1);
        DUE.is("alike(8)", x.alike(8), -1);
        for (int far : Due.FAR) {
            DUE.is("alike(" + far + ")", x.alike(far), -1);
        }
    }

    private static void notHimself() {
        DUE.says(8, "not he himself");
        for (String kind : KINDS) {
            DUE.is(kind + " alone", Due.told(kind + " 0 0 0 0 0;").alike(0), 0);
        }
        UnlikeFerry x = Due.told("plain0 0 0 0 0;".repeat(9));
        for (int p = 0; p < 9; p++) {
            DUE.is("nine of one, alike(" + p + ")", x.alike(p), 511 - (1 << p));
        }
    }

    private static void kindWithKind() {
        DUE.termsSay("ALIKE are two, if they have one TRADE (but jacks, admirals ..), one TOWN (but nameless ones, "
            + "admirals), or one TALE (but liars, admirals); else UNLIKE");
        for (int a = 0; a < 5; a++) {
            for (int b = 0; b < 5; b++) {
                for (int same = 0; same < 8; same++) {
                    String other = ((same & 1) != 0 ? " 1" : " 4") + ((same & 2) != 0 ? " 2" : " 5") + ((same & 4) != 0 ? " 3" : " 0");
                    UnlikeFerry x = Due.told(KINDS[a] + " 1 2 3 0 0;" + KINDS[b] + other + " 0 0;");
                    boolean alike = (same & ~LACKS[a] & ~LACKS[b]) != 0;
                    String pair = KINDS[a] + ", " + KINDS[b] + ", the same " + same;
                    DUE.is(pair + ", alike(0)", x.alike(0), alike ? 2 : 0);
                    DUE.is(pair + ", alike(1)", x.alike(1), alike ? 1 : 0);
                }
            }
        }
    }

    private static void wherever() {
        DUE.says(8, "Those who are ALIKE with a ONE, whatever they are");
        UnlikeFerry x = Due.told("plain 0 0 0 9 9;plain 1 1 1 9 9;plain 2 2 2 9 9;plain 3 3 3 9 9;plain 4 4 4 9 9;"
            + "plain 0 1 2 9 9;seats 2;here 1;here 2;here 3;here 4;");
        x.turn(3, 2, 5);
        x.turn(4, 2, 5);
        x.board(1);
        x.board(3);
        x.board(2);
        x.leave(4);
        DUE.is("alike(5), to come, sailed, aboard", x.alike(5), 7);
        DUE.is("alike(3), gave up", x.alike(3), 16);
        DUE.is("alike(4), sailed", x.alike(4), 8);
    }
}
