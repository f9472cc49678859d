/** Promises 17 to 20: hours. */
final class HoursTest {
    private static final Due DUE = new Due();
    private static final String MIXED = TextTest.MIXED.replace("seats 4", "seats 3");

    public static void main(String[] args) {
        goes();
        looksAhead();
        gaveUp();
        onceThrough();
        limits();
        whenTheySail();
        whoBlocks();
        DUE.finish("HoursTest");
    }

    private static void goes() {
        UnlikeFerry x = Due.told(MIXED);
        DUE.is("go(0)", x.go(0), 0);
        DUE.is("rule(4)", x.rule(4), 0);
        DUE.is("go(1)", x.go(1), 1);
        DUE.is("rule(4)", x.rule(4), 1);
        DUE.is("patience of who waits", x.one(1, 4), 1);
        DUE.is("patience of who sailed", x.one(0, 4), 3);
        DUE.is("go(1) more", x.go(1), 0);
        DUE.is("aboard", x.rule(7), 6);
        DUE.is("patience of who boarded", x.one(1, 4), 1);
        DUE.is("go(30)", x.go(30), 1);
        DUE.is("boats", x.rule(5), 2);
        DUE.is("hour", x.rule(4), 32);
        DUE.is("aboard", x.rule(7), 32);
        DUE.is("sailed", x.rule(8), 95);
        DUE.is("go(-1)", x.go(-1), -1);
        DUE.is("go(31)", x.go(31), -1);
    }

    private static void looksAhead() {
        UnlikeFerry x = Due.told(MIXED);
        int[][] due = {{0, 9, 0, 0, 0}, {1, 2, 0, 73, 0}, {1, 0, 6, 73, 0}, {2, 0, 0, 95, 0}, {2, 0, 32, 95, 0}};
        for (int n = 0; n < due.length; n++) {
            for (int what = 0; what < 5; what++) {
                DUE.is("ahead(" + n + ", " + what + ")", x.ahead(n, what), due[n][what]);
            }
        }
        DUE.is("ahead(30, 2)", x.ahead(30, 2), 32);
        DUE.is("ahead(31, 0)", x.ahead(31, 0), -1);
        DUE.is("ahead(-1, 0)", x.ahead(-1, 0), -1);
        DUE.is("ahead(0, 5)", x.ahead(0, 5), -1);
        DUE.is("ahead(0, -1)", x.ahead(0, -1), -1);
        DUE.is("nothing went", x.rule(4), 0);
        DUE.is("nobody went", x.rule(6), 9);
        x.go(1);
        DUE.is("boats in these hours alone", x.ahead(2, 0), 1);
    }

    private static void gaveUp() {
        UnlikeFerry x = Due.told("plain 0 0 0 0 0;plain 0 1 1 1 0;plain 0 2 2 0 0;plain 0 3 3 0 2;seats 2;");
        DUE.is("ahead(1, 4), patience 0", x.ahead(1, 4), 4);
        DUE.is("ahead(1, 1), patience 1", x.ahead(1, 1), 2);
        DUE.is("ahead(2, 4)", x.ahead(2, 4), 6);
        DUE.is("ahead(3, 4)", x.ahead(3, 4), 14);
        x.go(1);
        DUE.is("one(1, 4)", x.one(1, 4), 0);
        DUE.is("one(2, 4)", x.one(2, 4), 0);
        x.go(30);
        DUE.is("rule(9)", x.rule(9), 14);
        DUE.is("he who is aboard stays", x.rule(7), 1);
        UnlikeFerry first = Due.told("plain 0 0 0 1 0;plain 0 1 1 9 0;here 0;here 1;");
        first.board(1);
        DUE.is("the first waits, ahead(1, 4)", first.ahead(1, 4), 0);
        DUE.is("the first gives up, ahead(2, 4)", first.ahead(2, 4), 1);
    }

    private static void onceThrough() {
        // 1 is turned away by 0; behind the sailing of 0 and 2 the round does not come back to him.
        UnlikeFerry x = Due.told("plain 0 0 0 9 0;plain 0 1 1 9 0;plain 2 2 2 9 0;plain 0 3 3 9 0;seats 2;");
        DUE.is("ahead(1, 0)", x.ahead(1, 0), 1);
        DUE.is("ahead(1, 3)", x.ahead(1, 3), 5);
        DUE.is("ahead(1, 2), the next boat", x.ahead(1, 2), 8);
        DUE.is("ahead(1, 1)", x.ahead(1, 1), 2);
    }

    private static void limits() {
        UnlikeFerry x = Due.told("plain 0 0 0 9 0;plain 1 1 1 9 0;seats 2;");
        for (int i = 0; i < 33; i++) {
            DUE.is("go(30), time " + i, x.go(30), i == 0 ? 1 : 0);
        }
        DUE.is("go(10), hour 990", x.go(10), -3);
        DUE.is("go(31), hour 990", x.go(31), -1);
        DUE.is("rule(4)", x.rule(4), 990);
        DUE.is("go(9)", x.go(9), 0);
        DUE.is("go(1), hour 999", x.go(1), -3);
        DUE.is("go(0), hour 999", x.go(0), 0);
        DUE.is("ahead(30, 3), hour 999", x.ahead(30, 3), 3);
        DUE.is("rule(4)", x.rule(4), 999);
    }

    private static void whenTheySail() {
        UnlikeFerry x = Due.told(MIXED);
        int[] due = {1, 3, 3, 1, 3, -4, 1};
        for (int p = 0; p < due.length; p++) {
            DUE.is("when(" + p + ")", x.when(p), due[p]);
        }
        DUE.is("when(-1)", x.when(-1), -1);
        DUE.is("when(7)", x.when(7), -1);
        DUE.is("nothing went", x.rule(4), 0);
        x.go(1);
        DUE.is("when(0), sailed", x.when(0), 0);
        DUE.is("when(1)", x.when(1), 2);
        UnlikeFerry y = Due.told("plain 0 0 0 9 0;plain 1 1 1 9 9;seats 2;");
        DUE.is("when(1), comes late", y.when(1), 10);
    }

    private static void whoBlocks() {
        UnlikeFerry x = Due.told(MIXED);
        DUE.is("blocks(1), nobody aboard", x.blocks(1), 0);
        x.board(0);
        x.board(3);
        int[] due = {0, 9, 0, 0, 1, 0, 0};
        for (int p = 0; p < due.length; p++) {
            DUE.is("blocks(" + p + ")", x.blocks(p), due[p]);
        }
        DUE.is("blocks(-1)", x.blocks(-1), -1);
        DUE.is("blocks(7)", x.blocks(7), -1);
    }
}
