/** Promises 34 to 40: images, sheets, counts. */
final class SheetTest {
    private static final Due DUE = new Due();

    public static void main(String[] args) {
        images();
        newSheets();
        lowestBits();
        reads();
        refusals();
        machineFaults();
        noOneRead();
        tornStays();
        counts();
        DUE.finish("SheetTest");
    }

    private static void images() {
        UnlikeFerry x = Due.told(TextTest.MIXED);
        DUE.is("back(0), none", x.back(0), -2);
        DUE.is("keep(2)", x.keep(2), -1);
        DUE.is("keep(-1)", x.keep(-1), -1);
        DUE.is("back(2)", x.back(2), -1);
        DUE.is("back(-1)", x.back(-1), -1);
        x.go(1);
        DUE.is("keep(0)", x.keep(0), 0);
        x.see(1, true);
        int[] rules = new int[10];
        int[] ones = new int[49];
        for (int i = 0; i < 49; i++) {
            ones[i] = x.one(i / 7, i % 7);
            rules[i % 10] = x.rule(i % 10);
        }
        x.go(4);
        x.price(0, 9);
        x.price(1, 9);
        x.calm(0, 1);
        x.turn(0, 1, 4);
        x.teach(0, 3);
        DUE.is("keep(1)", x.keep(1), 0);
        DUE.is("keep(1) again", x.keep(1), 1);
        x.seats(5);
        DUE.is("back(0)", x.back(0), 1);
        for (int i = 0; i < 49; i++) {
            DUE.is("back, one(" + i / 7 + ", " + i % 7 + ")", x.one(i / 7, i % 7), ones[i]);
            DUE.is("back, rule(" + i % 10 + ")", x.rule(i % 10), rules[i % 10]);
        }
        DUE.is("seen stays", x.count(0), 1);
        DUE.is("back(1)", x.back(1), 5);
        DUE.is("back(0), the image stands still", x.back(0), 1);
        x.go(1);
        DUE.is("back(0), it is a copy", x.back(0), 1);
        DUE.is("hour", x.rule(4), 1);
    }

    private static void newSheets() {
        UnlikeFerry x = new UnlikeFerry();
        int[][] wrong = {{-1, 0, 1}, {4, 0, 1}, {0, -1, 1}, {0, 3, 1}, {0, 0, 41}, {4, 0, -1}, {0, 3, -1}};
        for (int[] w : wrong) {
            DUE.is("sheet(" + w[0] + ", " + w[1] + ", " + w[2] + ")", x.sheet(w[0], w[1], w[2]), -1);
        }
        DUE.is("sheet(0, 0, -1)", x.sheet(0, 0, -1), -14);
        DUE.is("sheet(0, 0, MIN)", x.sheet(0, 0, Integer.MIN_VALUE), -14);
        DUE.is("nothing there", x.count(3), -4);
        DUE.is("sheet(0, 0, 0)", x.sheet(0, 0, 0), 1);
        DUE.is("count(3)", x.count(3), 0);
        DUE.is("lay(0, 0, 0), no cells", x.lay(0, 0, 0), -12);
        DUE.is("sheet(0, 2, 40)", x.sheet(0, 2, 40), 1);
        DUE.is("count(3)", x.count(3), 40);
        DUE.is("sheet(0, 0, -1), the old one stays", x.sheet(0, 0, -1), -14);
        DUE.is("count(3)", x.count(3), 40);
        DUE.is("lay(0, 39, 1)", x.lay(0, 39, 1), 1);
        DUE.is("lay(0, 40, 1)", x.lay(0, 40, 1), -12);
        DUE.is("lay(0, -1, 1)", x.lay(0, -1, 1), -12);
        DUE.is("lay(1, -1, 1), nothing", x.lay(1, -1, 1), -11);
        DUE.is("lay(4, 0, 1)", x.lay(4, 0, 1), -1);
        DUE.is("lay(-1, 0, 1)", x.lay(-1, 0, 1), -1);
    }

    private static UnlikeFerry three() {
        return Due.told("plain 0 0 0 9 0;plain 1 1 1 9 0;plain 1 2 2 9 0;seats 2;here 0;here 1;here 2;");
    }

    private static void lowestBits() {
        int[] values = {0x101, 0x10001, 1};
        for (int lane = 0; lane < 3; lane++) {
            for (int v = 0; v < 3; v++) {
                UnlikeFerry x = three();
                x.sheet(2, lane, 1);
                x.lay(2, 0, values[v]);
                boolean fits = v == 2 || lane < 2 && v == 1 || lane == 0;
                DUE.is("lane " + lane + ", value " + values[v], x.read(2, lane, 0, 1), fits ? 1 : -20);
                DUE.is("aboard", x.rule(7), fits ? 2 : 0);
                x.sheet(2, lane, 1);
                DUE.is("a new row is of 0", x.read(2, lane, 0, 1), 1);
            }
            UnlikeFerry y = three();
            y.sheet(2, lane, 1);
            y.lay(2, 0, 0xff);
            DUE.is("lane " + lane + ", 255", y.read(2, lane, 0, 1), -20);
        }
    }

    private static void reads() {
        UnlikeFerry x = three();
        x.sheet(1, 1, 4);
        for (int i = 0; i < 4; i++) {
            x.lay(1, i, i % 3);
        }
        DUE.is("read(1, 1, 0, 2)", x.read(1, 1, 0, 2), 2);
        DUE.is("torn()", x.torn(), 0);
        DUE.is("it sailed", x.rule(5), 1);
        DUE.is("read(1, 1, 2, 1)", x.read(1, 1, 2, 1), 1);
        DUE.is("read(1, 1, 3, 1)", x.read(1, 1, 3, 1), -20);
        int[][] wrong = {{-1, 1, 0, 1}, {4, 1, 0, 1}, {1, -1, 0, 1}, {1, 3, 0, 1}, {1, 1, 0, -1}, {1, 1, 0, 21}};
        for (int[] w : wrong) {
            DUE.is("read(" + w[0] + ", " + w[1] + ", " + w[2] + ", " + w[3] + ")", x.read(w[0], w[1], w[2], w[3]), -1);
        }
        DUE.is("read(1, 1, 0, 0)", x.read(1, 1, 0, 0), 0);
        DUE.is("read(1, 1, 99, 0)", x.read(1, 1, 99, 0), 0);
        DUE.is("torn(), nothing was read", x.torn(), 0);
    }

    private static void refusals() {
        UnlikeFerry x = three();
        x.sheet(0, 2, 5);
        x.lay(0, 0, 0);
        x.lay(0, 1, 1);
        x.lay(0, 2, 2);
        x.lay(0, 3, 7);
        DUE.is("the fourth is nobody", x.read(0, 2, 0, 5), -23);
        DUE.is("none sailed", x.rule(5), 0);
        DUE.is("all wait", x.rule(6), 7);
        DUE.is("1 and 2 are alike", x.read(0, 2, 1, 2), -21);
        DUE.is("all wait", x.rule(6), 7);
        x.leave(0);
        DUE.is("0 gave up", x.read(0, 2, 0, 1), -20);
        x.lay(0, 4, 1);
        x.lay(0, 3, 1);
        DUE.is("1 twice", x.read(0, 2, 3, 2), -21);
    }

    private static void machineFaults() {
        UnlikeFerry x = three();
        x.sheet(1, 1, 2);
        x.lay(1, 1, 2);
        DUE.is("0 and 2 come, the third cell is not there", x.read(1, 1, 0, 20), 2);
        DUE.is("INDEX", x.torn(), 2);
        DUE.is("they came", x.rule(8), 5);
        DUE.is("read(1, 1, 2, 1)", x.read(1, 1, 2, 1), 0);
        DUE.is("INDEX", x.torn(), 2);
        DUE.is("read(1, 1, -1, 2)", x.read(1, 1, -1, 2), 0);
        DUE.is("INDEX", x.torn(), 2);
        DUE.is("read(1, 1, MAX, 20)", x.read(1, 1, Integer.MAX_VALUE, 20), 0);
        DUE.is("INDEX", x.torn(), 2);
        DUE.is("read(1, 0, 0, 1)", x.read(1, 0, 0, 1), 0);
        DUE.is("CAST", x.torn(), 3);
        DUE.is("read(1, 2, 99, 1), CAST ahead of INDEX", x.read(1, 2, 99, 1), 0);
        DUE.is("CAST", x.torn(), 3);
        DUE.is("read(2, 1, 0, 1), nothing", x.read(2, 1, 0, 1), 0);
        DUE.is("NULL", x.torn(), 1);
        DUE.is("1 waits still", x.rule(6), 2);
    }

    private static void noOneRead() {
        for (int made = 0; made < 3; made++) {
            UnlikeFerry x = three();
            x.sheet(1, made, 2);
            for (int lane = 0; lane < 3; lane++) {
                for (int k = 1; k < 3; k++) {
                    for (int f = -1; f < 4; f++) {
                        String call = "read(" + k + ", " + lane + ", " + f + ", 0), made of lane " + made;
                        x.read(2, 0, 0, 1);
                        DUE.is("NULL ahead of it", x.torn(), 1);
                        DUE.is(call, x.read(k, lane, f, 0), 0);
                        DUE.is(call + ": no FAULT", x.torn(), 0);
                    }
                }
            }
            DUE.is("all wait still", x.rule(6), 7);
        }
    }

    private static void tornStays() {
        UnlikeFerry x = three();
        x.sheet(0, 0, 1);
        x.lay(0, 0, 9);
        x.read(1, 0, 0, 1);
        DUE.is("NULL", x.torn(), 1);
        DUE.is("refused by board()", x.read(0, 0, 0, 1), -20);
        DUE.is("NULL stays", x.torn(), 1);
        DUE.is("BAD", x.read(0, 0, 0, 21), -1);
        DUE.is("NULL stays", x.torn(), 1);
        x.lay(0, 0, 1);
        DUE.is("read(0, 0, 0, 1)", x.read(0, 0, 0, 1), 1);
        DUE.is("no fault", x.torn(), 0);
    }

    private static void counts() {
        UnlikeFerry x = Due.told(TextTest.MIXED);
        x.feed(65);
        x.keep(1);
        DUE.is("count(1)", x.count(1), 1);
        x.keep(0);
        x.see(0, true);
        x.see(1, false);
        x.see(1, false);
        x.sheet(0, 1, 7);
        x.sheet(1, 1, 9);
        x.board(0);
        x.come(1);
        x.come(4);
        int[] due = {3, 2, 1, 7, 3, 1, 3};
        for (int what = 0; what < due.length; what++) {
            DUE.is("count(" + what + ")", x.count(what), due[what]);
        }
        DUE.is("count(-1)", x.count(-1), -1);
        DUE.is("count(7)", x.count(7), -1);
        x.leave(1);
        DUE.is("count(6), 1 is gone", x.count(6), 1);
    }
}
