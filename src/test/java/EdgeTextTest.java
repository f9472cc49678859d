/** The boundary cases of promises 4 to 8: texts, each FAULT at each place where it can stand; what there is. */
final class EdgeTextTest {
    private static final String[] KINDS = {"plain", "liar", "admiral", "nameless", "jack"};
    /** A line of each form, and the least and the most that each of its NUMBERS may be. */
    private static final String[][] LINES = {{"plain", "1", "2", "3", "4", "5", ";"}, {"seats", "2", ";"},
        {"cost", "3", "4", ";"}, {"here", "0", ";"}};
    private static final int[][] LEAST = {{0, 0, 0, 0, 0}, {2}, {0, 0}, {0}};
    private static final int[][] MOST = {{5, 5, 5, 9, 9}, {5}, {9, 9}, {8}};
    private static final String ONE = "jack0 0 0 0 0;";
    private static final Due DUE = new Due();

    public static void main(String[] args) {
        emptyTexts();
        nothingOfRefused();
        bytesBeyond();
        fullTexts();
        longestTokens();
        blanks();
        noToken();
        tooLong();
        misplaced();
        strangeNames();
        theEnd();
        bounds();
        again();
        tooMany();
        nobodyThere();
        firstMet();
        tapeIsEmptyThen();
        whichFault();
        DUE.finish("EdgeTextTest");
    }

    private static void fails(String text, int place, int fault) {
        UnlikeFerry x = new UnlikeFerry();
        DUE.is("text() of '" + text + "'", Due.tell(x, text), -10 - place);
        DUE.is("fault() of '" + text + "'", x.fault(), fault);
        DUE.is("rule(0) behind '" + text + "'", x.rule(0), 0);
        DUE.is("rule(1) behind '" + text + "'", x.rule(1), 3);
    }

    private static UnlikeFerry taken(String text, int lines) {
        UnlikeFerry x = new UnlikeFerry();
        DUE.is("text() of '" + text + "'", Due.tell(x, text), lines);
        DUE.is("fault() of '" + text + "'", x.fault(), 0);
        return x;
    }

    /** What stands ahead of a TOKEN of a line, a blank behind each. */
    private static String ahead(String[] line, int i) {
        StringBuilder s = new StringBuilder();
        for (int t = 0; t < i; t++) {
            s.append(line[t]).append(' ');
        }
        return s.toString();
    }

    private static void emptyTexts() {
        DUE.says(4, "tells all: how many lines, of an empty TAPE none");
        for (String text : new String[] {"", " ", " ".repeat(160)}) {
            UnlikeFerry x = Due.fiveWays();
            x.price(0, 7);
            x.price(1, 8);
            x.go(1);
            x.keep(0);
            x.see(1, true);
            x.see(2, false);
            lookAround(x);
            DUE.is("text() of " + text.length() + " blanks", Due.tell(x, text), 0);
            int[] rules = {0, 3, 1, 1, 0, 0, 0, 0, 0, 0};
            for (int what = 0; what < rules.length; what++) {
                DUE.is("in place of what there was, rule(" + what + ")", x.rule(what), rules[what]);
            }
            DUE.is("one(0, 0)", x.one(0, 0), -1);
            DUE.is("nothing is SEEN", x.count(0), 0);
            DUE.is("IMAGES are gone", x.count(1), 0);
            DUE.is("back(0)", x.back(0), -2);
        }
    }

    /** Calls that work on something other than what is: nothing of it may be found in a text. */
    private static void lookAround(UnlikeFerry x) {
        x.ahead(30, 0);
        x.when(0);
        x.drift(1, 60, 0);
        x.read(0, 0, 0, 1);
        x.ahead(1, 0);
    }

    private static void nothingOfRefused() {
        DUE.says(4, "tells all: nothing is of a text that was refused");
        UnlikeFerry x = new UnlikeFerry();
        DUE.is("a text with a FAULT", Due.tell(x, "plain 5 4 3 2 1;seats 5;cost 8 9;here 0;$"), -10 - 40);
        DUE.is("a ONE alone", Due.tell(x, "liar 0 1 2 3 4;"), 1);
        int[] rules = {1, 3, 1, 1, 0, 0, 0, 0, 0, 0};
        for (int what = 0; what < rules.length; what++) {
            DUE.is("rule(" + what + ")", x.rule(what), rules[what]);
        }
        int[] row = {1, 0, 1, 2, 3, 4, 0};
        for (int what = 0; what < row.length; what++) {
            DUE.is("one(0, " + what + ")", x.one(0, what), row[what]);
        }
        String[] wrong = {"$", "1", ";", "a", "111", "seats", "seats 2", "seats 2 3", "seats 9", "here 0;here 0;", "here 0;"};
        for (String refused : wrong) {
            for (int blanks = 0; blanks <= 4; blanks++) {
                DUE.is("text() of " + refused, Due.tell(x, refused) < 0 ? 1 : 0, 1);
                DUE.is("text() of " + blanks + " blanks behind it", Due.tell(x, " ".repeat(blanks)), 0);
                DUE.is("fault()", x.fault(), 0);
            }
            x = new UnlikeFerry();
        }
    }

    private static void bytesBeyond() {
        DUE.says(4, "THE TAPE tells all: bytes that it has no more tell nothing");
        String[] whole = {"seats 23;", "seats 2;", "plain 0 0 0 0 00;", "heres 0;", "cost 1 1; $"};
        int[] first = {7, 7, 15, 4, 10};
        int[] due = {-17, -17, -25, -14, 1};
        for (int i = 0; i < whole.length; i++) {
            UnlikeFerry x = new UnlikeFerry();
            Due.feed(x, whole[i]);
            x.end(first[i]);
            DUE.is("text() of the first " + first[i] + " of '" + whole[i] + "'", x.text(), due[i]);
            DUE.is("fault()", x.fault(), due[i] < 0 ? 2 : 0);
        }
        UnlikeFerry y = new UnlikeFerry();
        Due.tell(y, "9".repeat(160));
        DUE.is("text() of 'seats 2', figures stood there", Due.tell(y, "seats 2"), -17);
        DUE.is("fault()", y.fault(), 2);
        fails(" ".repeat(153) + "seats 2", 160, 2);
        fails(" ".repeat(152) + "seats 02", 160, 2);
        fails(" ".repeat(157) + "012", 157, 1);
    }

    private static void fullTexts() {
        DUE.termsSay("THE TAPE has 160 bytes: a text of all of them");
        String text = ONE.repeat(9) + "here0;here1;here2;here7;here8;    ";
        DUE.is("its length", text.length(), 160);
        UnlikeFerry x = taken(text, 14);
        DUE.is("rule(0)", x.rule(0), 9);
        DUE.is("rule(6)", x.rule(6), 0x187);
        taken(" ".repeat(152) + "seats 2;", 1);
        DUE.termsSay("places from 0: the last, and the length");
        fails(" ".repeat(159) + "$", 159, 1);
        fails(" ".repeat(155) + "seats", 160, 2);
        fails(" ".repeat(153) + "here 0;", 160, 6);
        fails("$" + " ".repeat(159), 0, 1);
    }

    private static void longestTokens() {
        DUE.termsSay("TOKENS, each as long as may be");
        fails("a".repeat(160), 0, 2);
        fails("9".repeat(160), 0, 1);
        fails("plainplain 0 0 0 0 0;", 0, 2);
        fails("herehere 0;", 0, 2);
        fails("plain 1 2 3 4 56;", 14, 3);
        fails("plain 12345;", 6, 1);
        fails("cost 12;", 5, 3);
        fails("cost 01;", 7, 2);
        UnlikeFerry x = taken("cost1 2;plain0 1 2 3 4;seats05;here00;", 4);
        DUE.is("rule(2)", x.rule(2), 1);
        DUE.is("rule(1)", x.rule(1), 5);
        DUE.is("rule(6)", x.rule(6), 1);
        DUE.termsSay("NUMBERS (1 or 2 figures)");
        UnlikeFerry y = taken("nameless 05 00 04 09 08;cost 00 09;", 2);
        int[] row = {3, 5, 0, 4, 9, 8, 0};
        for (int what = 0; what < row.length; what++) {
            DUE.is("one(0, " + what + ")", y.one(0, what), row[what]);
        }
    }

    private static void blanks() {
        DUE.termsSay("blanks (32) between");
        taken("  seats  2  ;  cost  1  1  ;  ", 2);
        for (int c : new int[] {0, 9, 10, 13, 31, 33, 127}) {
            fails("seats" + (char) c + "2;", 5, 1);
            fails("seats 2;" + (char) c, 8, 1);
        }
        DUE.termsSay("one ;");
        fails("seats 2;;", 8, 2);
        fails(";", 0, 2);
        fails(" ;", 1, 2);
    }

    private static void noToken() {
        DUE.termsSay("1 no TOKEN");
        for (String[] line : LINES) {
            for (int i = 0; i <= line.length; i++) {
                String ahead = ahead(line, i);
                fails(ahead + "$", ahead.length(), 1);
                fails(ahead + "A", ahead.length(), 1);
                fails(ahead + "-1", ahead.length(), 1);
            }
        }
        // All bytes that begin no TOKEN, those beside a .. z, 0 .. 9, the blank and ; among them.
        for (int c = 0; c < 128; c++) {
            boolean begins = c >= 'a' && c <= 'z' || c >= '0' && c <= '9' || c == ';' || c == ' ';
            UnlikeFerry x = new UnlikeFerry();
            x.feed(c);
            DUE.is("text() of byte " + c, x.text(), c == ' ' ? 0 : -10);
            DUE.is("fault() of byte " + c, x.fault(), c == ' ' ? 0 : begins ? 2 : 1);
        }
    }

    private static void tooLong() {
        DUE.termsSay("1 .. a NUMBER that is too long (its first byte)");
        for (String[] line : LINES) {
            for (int i = 0; i <= line.length; i++) {
                String ahead = ahead(line, i);
                fails(ahead + "000", ahead.length(), 1);
                fails(ahead + "   1234", ahead.length() + 3, 1);
            }
        }
        fails("seats 100;", 6, 1);
        fails("seats 002;", 6, 1);
        fails("seats 02;000", 9, 1);
    }

    private static void misplaced() {
        DUE.termsSay("2 a TOKEN that can not stand there");
        for (String[] line : LINES) {
            for (int i = 1; i < line.length; i++) {
                String ahead = ahead(line, i);
                boolean stop = line[i].equals(";");
                fails(ahead + "seats", ahead.length(), 2);
                fails(ahead + "x $", ahead.length(), 2);
                fails(ahead + (stop ? "1" : ";"), ahead.length(), 2);
                fails(ahead + "  " + (stop ? "99 $" : "; $"), ahead.length() + 2, 2);
            }
            String whole = ahead(line, line.length);
            fails(whole + "1", whole.length(), 2);
            fails(whole + "99 ;", whole.length(), 2);
            fails(whole + ";", whole.length(), 2);
        }
    }

    private static void strangeNames() {
        DUE.termsSay("2 .. (a NAME that begins no line ..)");
        for (String name : new String[] {"plain", "liar", "admiral", "nameless", "jack", "seats", "cost", "here"}) {
            String rest = " 0 0 0 0 0;";
            fails(name.substring(1) + rest, 0, 2);
            fails(name.substring(0, name.length() - 1) + rest, 0, 2);
            fails(name + "a" + rest, 0, 2);
            fails("a" + name + rest, 0, 2);
            fails("seats 4;" + name + name + rest, 8, 2);
            fails(name.substring(0, name.length() - 1) + "z" + rest, 0, 2);
            fails("z" + name.substring(1) + rest, 0, 2);
        }
        fails("a", 0, 2);
        fails("z", 0, 2);
    }

    private static void theEnd() {
        DUE.termsSay("2 .. (.. or the end: the length)");
        for (String[] line : LINES) {
            for (int i = 1; i < line.length; i++) {
                String ahead = ahead(line, i);
                fails(ahead, ahead.length(), 2);
                fails(ahead.trim(), ahead.length() - 1, 2);
                fails(ONE + ahead + "   ", ONE.length() + ahead.length() + 3, 2);
            }
        }
    }

    private static void bounds() {
        DUE.termsSay("3 a NUMBER out of its bounds");
        for (int l = 0; l < LINES.length; l++) {
            for (int i = 1; i <= MOST[l].length; i++) {
                String ahead = ahead(LINES[l], i);
                StringBuilder behind = new StringBuilder();
                for (int t = i + 1; t < LINES[l].length; t++) {
                    behind.append(' ').append(LINES[l][t]);
                }
                int least = LEAST[l][i - 1];
                int most = MOST[l][i - 1];
                String nine = l == 3 ? ONE.repeat(9) : "";
                for (int v = 0; v <= 99; v++) {
                    if (v < least || v > most) {
                        fails(ahead + v + " $", ahead.length(), 3);
                    } else {
                        taken(nine + ahead + v + behind, l == 3 ? 10 : 1);
                    }
                }
            }
        }
        DUE.termsSay("KIND (0 plain, 1 liar, 2 admiral, 3 nameless, 4 jack)");
        for (int k = 0; k < KINDS.length; k++) {
            UnlikeFerry x = taken(KINDS[k] + " 5 4 3 9 8;", 1);
            int[] row = {k, 5, 4, 3, 9, 8, 0};
            for (int what = 0; what < row.length; what++) {
                DUE.is(KINDS[k] + ", one(0, " + what + ")", x.one(0, what), row[what]);
            }
        }
    }

    private static void again() {
        DUE.termsSay("4 seats, cost for the second time (its NAME)");
        fails("seats 2;seats", 8, 4);
        fails("seats 2;  seats $", 10, 4);
        fails("seats 2;cost 1 1;seats 2;", 17, 4);
        fails("cost 1 1;cost", 9, 4);
        fails("cost 1 1; cost 99", 10, 4);
        fails("cost 1 1;seats 2;cost 1 1;", 17, 4);
        DUE.termsSay("4 .. a ONE who is told here already (it)");
        for (int p = 0; p <= 8; p++) {
            fails("here " + p + ";here " + p + " $", 12, 4);
            fails("here " + p + ";here 0" + p + ";", 12, 4);
        }
        fails(ONE + "here 0;here 0;", 26, 4);
        fails("here 1;here 0;here 2;here 1;", 26, 4);
        UnlikeFerry x = taken("here0;here1;here2;here3;" + ONE.repeat(4), 8);
        DUE.is("rule(6)", x.rule(6), 15);
        DUE.termsSay("what a text ahead of it told is no second time");
        UnlikeFerry y = taken("seats 2;cost 3 4;" + ONE + "here 0;", 4);
        DUE.is("text() again", Due.tell(y, "seats 2;cost 3 4;" + ONE + "here 0;"), 4);
        DUE.is("fails", Due.tell(y, "seats 4;cost 5 6;" + ONE + "here 0;$"), -10 - 38);
        DUE.is("text() behind it", Due.tell(y, "seats 4;cost 5 6;" + ONE + "here 0;"), 4);
    }

    private static void tooMany() {
        DUE.termsSay("TRAVELLERS (9 at most) .. 5 the 10th ONE (its NAME)");
        for (int ones = 0; ones <= 9; ones++) {
            DUE.is("rule(0)", taken(ONE.repeat(ones), ones).rule(0), ones);
        }
        for (String kind : KINDS) {
            fails(ONE.repeat(9) + kind, 126, 5);
            fails(ONE.repeat(9) + " " + kind + " $", 127, 5);
        }
        fails(ONE.repeat(9) + "seats 2;" + "jack 0 0 0 0 0;", 134, 5);
        fails(ONE.repeat(9) + "jacks 0 0 0 0 0;", 126, 2);
        fails(ONE.repeat(9) + "7", 126, 2);
        taken(ONE.repeat(9) + "seats 2;cost 1 1;here 8;", 12);
        UnlikeFerry x = Due.told(ONE.repeat(9));
        DUE.is("nine behind nine", Due.tell(x, ONE.repeat(9)), 9);
    }

    private static void nobodyThere() {
        DUE.termsSay("Behind all (the length): 6 a ONE that there is not");
        for (int ones = 0; ones <= 8; ones++) {
            String told = ONE.repeat(ones);
            fails(told + "here " + ones + ";", told.length() + 7, 6);
            fails("here " + ones + ";" + told + "  ", told.length() + 9, 6);
            fails("here 8;" + told, told.length() + 7, 6);
            taken("here " + ones + ";" + told + ONE, ones + 2);
            taken(told + ONE + "here " + ones + ";", ones + 2);
        }
        fails(ONE + "here 0;here 1;", 28, 6);
        fails(ONE + "here 1;here 0;", 28, 6);
        DUE.termsSay("here: a ONE (0 to 8) who WAITS from the first on; TO COME (at first)");
        UnlikeFerry x = taken(ONE.repeat(9) + "here 8;here 0;", 11);
        for (int p = 0; p < 9; p++) {
            DUE.is("one(" + p + ", 6)", x.one(p, 6), p == 0 || p == 8 ? 1 : 0);
        }
    }

    private static void firstMet() {
        DUE.termsSay("the first met as it is read (a TOKEN is read when the one before has been taken)");
        fails("seats 6$", 6, 3);
        fails("seats $ 6", 6, 1);
        fails("plain 6 $", 6, 3);
        fails("here 9 here", 5, 3);
        fails("here 0;here 9;", 12, 3);
        fails("here 0;$", 7, 1);
        fails("here 0;seats 6;", 13, 3);
        fails("here 0;cost", 11, 2);
        fails("here 0;here 0;seats 6;", 12, 4);
        fails("seats 2;seats 6;", 8, 4);
        fails("seats 6;seats 2;", 6, 3);
        fails("names$", 0, 2);
        fails("5$", 0, 2);
        fails("123x", 0, 1);
        fails("seats 2 seats", 8, 2);
        fails(ONE.repeat(9) + "here 9;jack", 131, 3);
        fails(ONE.repeat(9) + "jack 9", 126, 5);
    }

    private static void tapeIsEmptyThen() {
        DUE.says(4, "THE TAPE (empty then) tells all");
        UnlikeFerry x = new UnlikeFerry();
        DUE.is("text()", Due.tell(x, "seats 2;"), 1);
        DUE.is("count(2)", x.count(2), 0);
        DUE.is("end(1)", x.end(1), -1);
        DUE.says(4, "-10 less the place of its FAULT: that which was told stays (but THE TAPE)");
        DUE.is("text()", Due.tell(x, "seats 4;cost 9 9;" + ONE + "$"), -10 - 31);
        DUE.is("count(2)", x.count(2), 0);
        DUE.is("end(1)", x.end(1), -1);
        DUE.is("rule(0)", x.rule(0), 0);
        DUE.is("rule(1)", x.rule(1), 2);
        DUE.is("rule(2)", x.rule(2), 1);
        DUE.is("text() of the empty TAPE", x.text(), 0);
        DUE.is("rule(1), all is told anew", x.rule(1), 3);
    }

    private static void whichFault() {
        DUE.says(5, "The FAULT of the latest text(); 0");
        UnlikeFerry x = new UnlikeFerry();
        DUE.is("no text() yet", x.fault(), 0);
        String[] texts = {"$", ";", "seats 1;", "seats 2;seats 2;", ONE.repeat(9) + "jack", "here 0;"};
        for (int f = 1; f <= 6; f++) {
            Due.tell(x, texts[f - 1]);
            DUE.is("fault() of '" + texts[f - 1] + "'", x.fault(), f);
            DUE.is("asked again", x.fault(), f);
            x.feed('$');
            DUE.is("a byte is no text()", x.fault(), f);
            x.end(0);
        }
        x.text();
        DUE.is("fault() of a text that is taken", x.fault(), 0);
    }
}
