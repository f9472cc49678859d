/** Promises 1 to 8: a new object, the tape, the text and its faults, what there is. */
final class TextTest {
    static final String MIXED = "plain 0 0 0 3 0;plain 1 0 1 2 0;liar 2 1 0 1 1;plain 1 2 2 4 0;jack 0 3 0 0 2;"
        + "admiral 5 5 5 9 3;nameless 2 2 3 2 0;seats 4;cost 2 5;here 0;here 3;";
    private static final Due DUE = new Due();

    public static void main(String[] args) {
        newObject();
        tape();
        taken();
        tokens();
        faults();
        replaces();
        refusedTextChangesNothing();
        whatThereIs();
        whoIsAlike();
        DUE.finish("TextTest");
    }

    private static void newObject() {
        UnlikeFerry x = new UnlikeFerry();
        int[] rules = {0, 3, 1, 1, 0, 0, 0, 0, 0, 0};
        for (int what = 0; what < rules.length; what++) {
            DUE.is("new, rule(" + what + ")", x.rule(what), rules[what]);
        }
        int[] counts = {0, 0, 0, UnlikeFerry.NONE, 0, 0, 0};
        for (int what = 0; what < counts.length; what++) {
            DUE.is("new, count(" + what + ")", x.count(what), counts[what]);
        }
        DUE.is("new, fault()", x.fault(), 0);
        DUE.is("new, torn()", x.torn(), 0);
        DUE.is("new, one(0, 0)", x.one(0, 0), -1);
        for (int k = 0; k < 4; k++) {
            DUE.is("new, lay(" + k + ", 0, 0)", x.lay(k, 0, 0), -11);
        }
        DUE.is("BAD", UnlikeFerry.BAD, -1);
        DUE.is("STATE", UnlikeFerry.STATE, -2);
        DUE.is("FULL", UnlikeFerry.FULL, -3);
        DUE.is("NONE", UnlikeFerry.NONE, -4);
    }

    private static void tape() {
        UnlikeFerry x = new UnlikeFerry();
        DUE.is("feed(-1)", x.feed(-1), -1);
        DUE.is("feed(128)", x.feed(128), -1);
        for (int i = 1; i <= 160; i++) {
            DUE.is("feed, byte " + i, x.feed(i % 128), i);
        }
        DUE.is("feed(32), the tape is full", x.feed(32), -3);
        DUE.is("feed(128), the tape is full", x.feed(128), -1);
        DUE.is("count(2)", x.count(2), 160);
        DUE.is("end(-1)", x.end(-1), -1);
        DUE.is("end(161)", x.end(161), -1);
        DUE.is("end(160)", x.end(160), 160);
        DUE.is("end(3)", x.end(3), 160);
        DUE.is("end(4), more than there are", x.end(4), -1);
        DUE.is("end(0)", x.end(0), 3);
        DUE.is("end(0) again", x.end(0), 0);
        for (char c : "seats 2;seats".toCharArray()) {
            x.feed(c);
        }
        DUE.is("end(8)", x.end(8), 13);
        DUE.is("text() of the first 8", x.text(), 1);
        DUE.is("count(2), empty then", x.count(2), 0);
    }

    private static void taken() {
        UnlikeFerry x = new UnlikeFerry();
        DUE.is("text() of MIXED", Due.tell(x, MIXED), 11);
        DUE.is("fault()", x.fault(), 0);
        int[] rules = {7, 4, 2, 5, 0, 0, 9, 0, 0, 0};
        for (int what = 0; what < rules.length; what++) {
            DUE.is("MIXED, rule(" + what + ")", x.rule(what), rules[what]);
        }
        DUE.is("text() of nothing", Due.tell(x, ""), 0);
        DUE.is("nobody then", x.rule(0), 0);
        DUE.is("three seats then", x.rule(1), 3);
        DUE.is("cost 1 then", x.rule(2), 1);
        DUE.is("cost 1 then", x.rule(3), 1);
        DUE.is("text() of blanks", Due.tell(x, "    "), 0);
        String nine = "jack 0 0 0 0 0;".repeat(9);
        DUE.is("text() of nine", Due.tell(x, nine), 9);
        DUE.is("here ahead of the ONE", Due.tell(x, "here 0;plain 0 0 0 0 0;"), 2);
        DUE.is("he waits", x.rule(6), 1);
        DUE.is("the bounds", Due.tell(x, "plain 5 5 5 9 9;seats 5;cost 9 9;here 0;"), 4);
        DUE.is("the lower bounds", Due.tell(x, "plain 0 0 0 0 0;seats 2;cost 0 0;here 0;"), 4);
        DUE.is("seats", x.rule(1), 2);
        DUE.is("cost", x.rule(2), 0);
    }

    private static void tokens() {
        UnlikeFerry x = new UnlikeFerry();
        DUE.is("no blanks", Due.tell(x, "seats2;cost0 00;"), 2);
        DUE.is("many blanks", Due.tell(x, "   seats   02   ;  "), 1);
        DUE.is("two figures", Due.tell(x, "plain 05 04 03 02 01;"), 1);
        DUE.is("two figures, trade", x.one(0, 1), 5);
        DUE.is("two figures, comes", x.one(0, 5), 1);
        fails("seats 002;", 6, 1);
        fails("seats 2345;", 6, 1);
        fails("Seats 2;", 0, 1);
        fails("seats 2,", 7, 1);
        fails("seats\t2;", 5, 1);
        fails("seats 2;\n", 8, 1);
        fails("seats 2;\0", 8, 1);
        fails("seats 2;\u007f", 8, 1);
        fails("seats -2;", 6, 1);
        fails("seats 2,x 5;", 7, 1);
        fails("z 2;", 0, 2);
        fails("a 2;", 0, 2);
        fails("`", 0, 1);
        fails("{", 0, 1);
        fails("/", 0, 1);
        fails(":", 0, 1);
        fails("9", 0, 2);
    }

    private static void fails(String text, int place, int fault) {
        UnlikeFerry x = new UnlikeFerry();
        DUE.is("text() of '" + text + "'", Due.tell(x, text), -10 - place);
        DUE.is("fault() of '" + text + "'", x.fault(), fault);
        DUE.is("the tape behind '" + text + "'", x.count(2), 0);
    }

    private static void faults() {
        fails("school 1;", 0, 2);
        fails("seat 2;", 0, 2);
        fails("seatss 2;", 0, 2);
        fails("plai 0 0 0 0 0;", 0, 2);
        fails(" 5", 1, 2);
        fails(";", 0, 2);
        fails("seats 2;;", 8, 2);
        fails("seats ;", 6, 2);
        fails("seats two;", 6, 2);
        fails("seats 2 2;", 8, 2);
        fails("seats 2", 7, 2);
        fails("seats 2   ", 10, 2);
        fails("seats", 5, 2);
        fails("cost 1;", 6, 2);
        fails("plain 0 0 0 0;", 13, 2);
        fails("plain 0 0 0 0 0 0;", 16, 2);
        fails("plain 6 0 0 0 0;", 6, 3);
        fails("plain 0 6 0 0 0;", 8, 3);
        fails("plain 0 0 6 0 0;", 10, 3);
        fails("plain 0 0 0 10 0;", 12, 3);
        fails("plain 0 0 0 0 10;", 14, 3);
        fails("seats 1;", 6, 3);
        fails("seats 6;", 6, 3);
        fails("cost 10 0;", 5, 3);
        fails("cost 0 10;", 7, 3);
        fails("here 9;", 5, 3);
        fails("seats 6 $", 6, 3);
        fails("seats 2;  seats", 10, 4);
        fails("cost 1 1;cost 1 1;", 9, 4);
        fails("here 0;here 00;plain 0 0 0 0 0;", 12, 4);
        fails("here 8;here 8;", 12, 4);
        fails("jack 0 0 0 0 0;".repeat(9) + "jack", 135, 5);
        fails("jack 0 0 0 0 0;".repeat(9) + "jacks", 135, 2);
        fails("here 0;", 7, 6);
        fails("here 1;plain 0 0 0 0 0;  ", 25, 6);
        fails("jack 0 0 0 0 0;".repeat(8) + "here 8;", 127, 6);
        UnlikeFerry x = new UnlikeFerry();
        Due.tell(x, "here 0;");
        Due.tell(x, "seats 2;");
        DUE.is("fault() of a text that is taken", x.fault(), 0);
    }

    private static void replaces() {
        UnlikeFerry x = Due.told(MIXED);
        x.go(4);
        x.ahead(3, 0);
        x.keep(0);
        x.see(1, true);
        x.sheet(0, 0, 2);
        DUE.is("a second text", Due.tell(x, "liar 1 2 3 4 5;"), 1);
        DUE.is("travellers", x.rule(0), 1);
        DUE.is("seats", x.rule(1), 3);
        DUE.is("cost of trade", x.rule(2), 1);
        DUE.is("cost of tale", x.rule(3), 1);
        DUE.is("hour", x.rule(4), 0);
        DUE.is("boats", x.rule(5), 0);
        DUE.is("he is to come", x.one(0, 6), 0);
        DUE.is("nothing is seen", x.count(0), 0);
        DUE.is("no images", x.count(1), 0);
        DUE.is("back(0)", x.back(0), -2);
        DUE.is("sheets stay", x.count(3), 2);
    }

    private static void refusedTextChangesNothing() {
        UnlikeFerry x = Due.told(MIXED);
        x.go(1);
        x.keep(1);
        x.see(1, true);
        DUE.is("a text with a fault", Due.tell(x, "plain 0 0 0 0 0;seats 2;cost 9 9;here 1;"), -50);
        DUE.is("fault", x.fault(), 6);
        DUE.is("travellers", x.rule(0), 7);
        DUE.is("seats", x.rule(1), 4);
        DUE.is("cost of trade", x.rule(2), 2);
        DUE.is("hour", x.rule(4), 1);
        DUE.is("seen", x.count(0), 1);
        DUE.is("images", x.count(1), 1);
        DUE.is("his kind", x.one(2, 0), 1);
    }

    private static void whatThereIs() {
        UnlikeFerry x = Due.told(MIXED);
        int[][] rows = {{0, 0, 0, 0, 3, 0, 1}, {0, 1, 0, 1, 2, 0, 0}, {1, 2, 1, 0, 1, 1, 0}, {0, 1, 2, 2, 4, 0, 1},
            {4, 0, 3, 0, 0, 2, 0}, {2, 5, 5, 5, 9, 3, 0}, {3, 2, 2, 3, 2, 0, 0}};
        for (int p = 0; p < rows.length; p++) {
            for (int what = 0; what < 7; what++) {
                DUE.is("one(" + p + ", " + what + ")", x.one(p, what), rows[p][what]);
            }
        }
        DUE.is("one(-1, 0)", x.one(-1, 0), -1);
        DUE.is("one(7, 0)", x.one(7, 0), -1);
        DUE.is("one(0, -1)", x.one(0, -1), -1);
        DUE.is("one(0, 7)", x.one(0, 7), -1);
        DUE.is("rule(-1)", x.rule(-1), -1);
        DUE.is("rule(10)", x.rule(10), -1);
        x.go(3);
        DUE.is("rule(4)", x.rule(4), 3);
        DUE.is("rule(5)", x.rule(5), 0);
        DUE.is("rule(6), who wait", x.rule(6), 0);
        DUE.is("rule(7), who are aboard", x.rule(7), 73);
        DUE.is("rule(8), who have sailed", x.rule(8), 0);
        DUE.is("rule(9), who gave up", x.rule(9), 22);
        for (int p = 0; p < 7; p++) {
            DUE.is("one(" + p + ", 6)", x.one(p, 6), new int[] {2, 4, 4, 2, 4, 0, 2}[p]);
        }
        x.go(1);
        DUE.is("rule(5)", x.rule(5), 1);
        DUE.is("rule(7), nobody aboard", x.rule(7), 0);
        DUE.is("rule(8), who have sailed", x.rule(8), 105);
        DUE.is("one(0, 6)", x.one(0, 6), 3);
    }

    private static void whoIsAlike() {
        UnlikeFerry x = Due.told(MIXED);
        int[] alike = {18, 9, 64, 2, 1, 0, 4};
        for (int p = 0; p < alike.length; p++) {
            DUE.is("alike(" + p + ")", x.alike(p), alike[p]);
        }
        DUE.is("alike(-1)", x.alike(-1), -1);
        DUE.is("alike(7)", x.alike(7), -1);
        // 0 is plain; each of the others shares just what his kind has not, or all.
        UnlikeFerry y = Due.told("plain 1 1 1 0 0;liar 2 2 1 0 0;nameless 3 1 3 0 0;jack 1 4 4 0 0;admiral 1 1 1 0 0;");
        for (int p = 0; p < 5; p++) {
            DUE.is("kinds, alike(" + p + ")", y.alike(p), 0);
            y.teach(p, 0);
        }
        DUE.is("all plain, alike(0)", y.alike(0), 30);
        DUE.is("all plain, alike(1)", y.alike(1), 17);
    }
}
