/** The boundary cases of promises 1 to 3: a new object, the tape. */
final class EdgeTapeTest {
    private static final Due DUE = new Due();

    public static void main(String[] args) {
        nobody();
        firstNumbers();
        nothingOnSheets();
        nothingElse();
        objectsApart();
        bytesTaken();
        bytesRefused();
        fullTape();
        fullChangesNothing();
        roomAgain();
        endRefused();
        endKeepsFirst();
        endOfNothing();
        DUE.finish("EdgeTapeTest");
    }

    private static void nobody() {
        DUE.says(1, "Nobody");
        UnlikeFerry x = new UnlikeFerry();
        DUE.is("rule(0)", x.rule(0), 0);
        for (int what = 6; what <= 9; what++) {
            DUE.is("rule(" + what + ")", x.rule(what), 0);
        }
        for (int what = 0; what <= 6; what++) {
            DUE.is("one(0, " + what + ")", x.one(0, what), -1);
        }
        DUE.is("alike(0)", x.alike(0), -1);
        DUE.is("turn(0, 0, 0)", x.turn(0, 0, 0), -1);
        DUE.is("teach(0, 0)", x.teach(0, 0), -1);
        DUE.is("calm(0, 0)", x.calm(0, 0), -1);
        DUE.is("come(0)", x.come(0), -1);
        DUE.is("leave(0)", x.leave(0), -1);
        DUE.is("board(0)", x.board(0), -1);
        DUE.is("when(0)", x.when(0), -1);
        DUE.is("blocks(0)", x.blocks(0), -1);
        DUE.is("see(0, true)", x.see(0, true), -1);
        DUE.is("go(30)", x.go(30), 0);
        DUE.is("ahead(30, 4)", x.ahead(30, 4), 0);
    }

    private static void firstNumbers() {
        DUE.says(1, "three SEATS");
        DUE.is("rule(1)", new UnlikeFerry().rule(1), 3);
        DUE.is("seats(2)", new UnlikeFerry().seats(2), 3);
        DUE.termsSay("A change of TRADE costs so much, one of TALE so much (.. 1 each at first)");
        DUE.is("rule(2)", new UnlikeFerry().rule(2), 1);
        DUE.is("rule(3)", new UnlikeFerry().rule(3), 1);
        DUE.is("price(0, 9)", new UnlikeFerry().price(0, 9), 1);
        DUE.is("price(1, 9)", new UnlikeFerry().price(1, 9), 1);
        DUE.termsSay("HOUR, BOATS that sailed (0 at first)");
        DUE.is("rule(4)", new UnlikeFerry().rule(4), 0);
        DUE.is("rule(5)", new UnlikeFerry().rule(5), 0);
    }

    private static void nothingOnSheets() {
        DUE.says(1, "SHEETS have nothing");
        UnlikeFerry x = new UnlikeFerry();
        for (int k = 0; k < 4; k++) {
            DUE.is("lay(" + k + ", 0, 0)", x.lay(k, 0, 0), -11);
            for (int lane = 0; lane < 3; lane++) {
                DUE.is("read(" + k + ", " + lane + ", 0, 1)", x.read(k, lane, 0, 1), 0);
                DUE.is("torn()", x.torn(), 1);
            }
        }
        DUE.is("count(3)", x.count(3), -4);
    }

    private static void nothingElse() {
        DUE.says(1, "A new object: no bytes, no FAULTS, nothing SEEN, no IMAGES");
        UnlikeFerry x = new UnlikeFerry();
        int[] counts = {0, 0, 0, -4, 0, 0, 0};
        for (int what = 0; what < counts.length; what++) {
            DUE.is("count(" + what + ")", x.count(what), counts[what]);
        }
        DUE.is("fault()", x.fault(), 0);
        DUE.is("torn()", x.torn(), 0);
        DUE.is("end(0)", x.end(0), 0);
        DUE.is("forget(0)", x.forget(0), 0);
        for (int k = 0; k < 2; k++) {
            DUE.is("back(" + k + ")", x.back(k), -2);
            DUE.is("keep(" + k + ")", x.keep(k), 0);
        }
        DUE.is("text()", new UnlikeFerry().text(), 0);
    }

    private static void objectsApart() {
        DUE.says(1, "A new object has nothing of those made ahead of it");
        UnlikeFerry old = Due.fiveWays();
        old.sheet(0, 0, 4);
        old.keep(0);
        old.see(1, true);
        old.feed(32);
        UnlikeFerry x = new UnlikeFerry();
        DUE.is("rule(0)", x.rule(0), 0);
        DUE.is("rule(1)", x.rule(1), 3);
        DUE.is("count(0)", x.count(0), 0);
        DUE.is("count(1)", x.count(1), 0);
        DUE.is("count(2)", x.count(2), 0);
        DUE.is("count(3)", x.count(3), -4);
        x.seats(5);
        x.text();
        DUE.is("the old one's travellers", old.rule(0), 6);
        DUE.is("the old one's seats", old.rule(1), 2);
        DUE.is("the old one's tape", old.count(2), 1);
    }

    private static void bytesTaken() {
        DUE.says(2, "A byte (0 to 127) comes behind THE TAPE: how many it has");
        UnlikeFerry x = new UnlikeFerry();
        for (int c = 0; c <= 127; c++) {
            DUE.is("feed(" + c + ")", x.feed(c), c + 1);
        }
        DUE.is("count(2)", x.count(2), 128);
    }

    private static void bytesRefused() {
        DUE.says(2, "BAD");
        for (int c : new int[] {-1, 128, 129, 255, 256, 32 + 256, -128, Integer.MIN_VALUE, Integer.MAX_VALUE}) {
            UnlikeFerry x = new UnlikeFerry();
            DUE.is("feed(" + c + ")", x.feed(c), -1);
            DUE.is("count(2)", x.count(2), 0);
        }
    }

    private static void fullTape() {
        DUE.says(2, "FULL: more than 160");
        UnlikeFerry x = new UnlikeFerry();
        for (int i = 1; i <= 160; i++) {
            DUE.is("byte " + i, x.feed(32), i);
        }
        DUE.is("byte 161", x.feed(32), -3);
        DUE.is("byte 161 again", x.feed(127), -3);
        DUE.is("count(2)", x.count(2), 160);
        DUE.termsSay("the first that fits: BAD ahead of FULL");
        DUE.is("feed(128)", x.feed(128), -1);
        DUE.is("feed(-1)", x.feed(-1), -1);
    }

    private static void fullChangesNothing() {
        DUE.says(2, "FULL, and what is refused changes nothing");
        UnlikeFerry x = new UnlikeFerry();
        Due.feed(x, " ".repeat(152) + "seats 2;");
        DUE.is("feed('$')", x.feed('$'), -3);
        DUE.is("text(), the 160 bytes ahead of it", x.text(), 1);
        DUE.is("rule(1)", x.rule(1), 2);
    }

    private static void roomAgain() {
        DUE.says(2, "how many it has: a full tape that is made shorter takes bytes again");
        UnlikeFerry x = new UnlikeFerry();
        Due.feed(x, "$".repeat(161));
        DUE.is("end(159)", x.end(159), 160);
        DUE.is("feed(32)", x.feed(32), 160);
        DUE.is("feed(32)", x.feed(32), -3);
        x.text();
        DUE.is("feed(32), empty by text()", x.feed(32), 1);
    }

    private static void endRefused() {
        DUE.says(3, "BAD");
        UnlikeFerry x = new UnlikeFerry();
        Due.feed(x, "seats 2;");
        for (int n : new int[] {-1, 9, 10, 160, 161, Integer.MIN_VALUE, Integer.MAX_VALUE}) {
            DUE.is("end(" + n + ") of 8 bytes", x.end(n), -1);
            DUE.is("count(2)", x.count(2), 8);
        }
        DUE.is("text(), all 8 stand", x.text(), 1);
        Due.feed(x, "$".repeat(160));
        DUE.is("end(161) of 160", x.end(161), -1);
        DUE.is("end(160) of 160", x.end(160), 160);
        DUE.is("end(0) of 160", x.end(0), 160);
    }

    private static void endKeepsFirst() {
        DUE.says(3, "THE TAPE keeps its first n bytes: how many it had");
        UnlikeFerry x = new UnlikeFerry();
        Due.feed(x, "seats 2;cost 4 5;");
        DUE.is("end(17), all", x.end(17), 17);
        DUE.is("end(16)", x.end(16), 17);
        DUE.is("end(8)", x.end(8), 16);
        DUE.is("feed(' ')", x.feed(' '), 9);
        Due.feed(x, "cost 6 7;");
        DUE.is("text()", x.text(), 2);
        DUE.is("rule(1), of the first", x.rule(1), 2);
        DUE.is("rule(2), of those behind", x.rule(2), 6);
        Due.feed(x, "$seats 5;");
        DUE.is("end(0)", x.end(0), 9);
        DUE.is("text() of none", x.text(), 0);
    }

    private static void endOfNothing() {
        DUE.says(3, "an empty TAPE keeps 0 bytes, no more");
        UnlikeFerry x = new UnlikeFerry();
        DUE.is("end(0)", x.end(0), 0);
        DUE.is("end(1)", x.end(1), -1);
        DUE.is("end(-1)", x.end(-1), -1);
        x.feed(32);
        DUE.is("end(1)", x.end(1), 1);
        DUE.is("end(0)", x.end(0), 1);
        DUE.is("end(0) again", x.end(0), 0);
    }
}
