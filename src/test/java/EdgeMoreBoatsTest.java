/** The boundary cases of promises 25 to 27: the cheapest changes, whom a town should send, who can be the last. */
final class EdgeMoreBoatsTest {
    private static final String[] KINDS = {"plain", "liar", "admiral", "nameless", "jack"};
    private static final Due DUE = new Due();

    public static void main(String[] args) {
        cheapRefused();
        cheapTooFew();
        cheapTowns();
        cheapByKind();
        cheapMost();
        cheapLeastSet();
        cheapApart();
        cheapHere();
        sendRefused();
        sendNone();
        sendOfFew();
        sendLeast();
        sendWithHim();
        lastRefused();
        lastState();
        lastOfSeats();
        lastUnlike();
        DUE.finish("EdgeMoreBoatsTest");
    }

    private static void cheapRefused() {
        DUE.says(25, "BAD (ahead of NONE)");
        for (UnlikeFerry x : new UnlikeFerry[] {new UnlikeFerry(), Due.fiveWays()}) {
            DUE.is("cheap(-1)", x.cheap(-1), -1);
            DUE.is("cheap(2)", x.cheap(2), -1);
            for (int far : Due.FAR) {
                DUE.is("cheap(" + far + ")", x.cheap(far), -1);
            }
        }
    }

    private static void cheap(String when, UnlikeFerry x, int cost, int set) {
        DUE.is(when + ", cheap(0)", x.cheap(0), cost);
        DUE.is(when + ", cheap(1)", x.cheap(1), set);
    }

    private static void cheapTooFew() {
        DUE.says(25, "NONE: by none, as too few are HERE");
        cheap("nobody", new UnlikeFerry(), -4, -4);
        for (int here = 0; here <= 9; here++) {
            UnlikeFerry x = EdgeBoatsTest.lastWait(here);
            for (int seats = 2; seats <= 5; seats++) {
                x.seats(seats);
                boolean none = here < seats;
                cheap(here + " here, " + seats + " seats", x, none ? -4 : 0, none ? -4 : (1 << seats) - 1 << 9 - here);
            }
        }
    }

    private static void cheapTowns() {
        DUE.says(25, "NONE: by none (TOWNS do not change)");
        for (int a = 0; a < 5; a++) {
            for (int b = 0; b < 5; b++) {
                UnlikeFerry x = Due.allHere(KINDS[a] + " 0 3 0 0 0;" + KINDS[b] + " 1 3 1 0 0;seats 2;");
                boolean free = a == 2 || a == 3 || b == 2 || b == 3;
                cheap(KINDS[a] + ", " + KINDS[b] + " of a town", x, free ? 0 : -4, free ? 3 : -4);
                DUE.is("one(1, 2)", x.one(1, 2), 3);
            }
        }
    }

    private static void cheapByKind() {
        DUE.says(25, "the least cost: what does not count of a KIND needs no change");
        for (int a = 0; a < 5; a++) {
            for (int b = 0; b < 5; b++) {
                UnlikeFerry x = Due.allHere(KINDS[a] + " 4 0 5 0 0;" + KINDS[b] + " 4 1 5 0 0;seats 2;cost 2 5;");
                boolean trade = a != 2 && a != 4 && b != 2 && b != 4;
                boolean tale = a != 2 && a != 1 && b != 2 && b != 1;
                cheap(KINDS[a] + ", " + KINDS[b], x, (trade ? 2 : 0) + (tale ? 5 : 0), 3);
            }
        }
    }

    private static void cheapMost() {
        DUE.says(25, "the least cost: the most that it can be, and 0");
        UnlikeFerry x = Due.allHere("plain 0 0 0 0 0;plain 0 1 0 0 0;plain 0 2 0 0 0;plain 0 3 0 0 0;plain 0 4 0 0 0;"
            + "seats 5;cost 9 9;");
        cheap("five of a trade and a tale", x, 72, 31);
        x.price(0, 0);
        cheap("trades cost nothing", x, 36, 31);
        x.price(1, 0);
        cheap("all costs nothing", x, 0, 31);
        x.leave(4);
        cheap("too few", x, -4, -4);
        x.seats(4);
        x.price(0, 3);
        cheap("four", x, 9, 15);
        DUE.is("nothing is changed", x.one(1, 1), 0);
    }

    private static void cheapLeastSet() {
        DUE.says(25, "the least set by bits for which it is so cheap (1)");
        UnlikeFerry x = Due.allHere("plain 0 0 0 0 0;plain 0 1 0 0 0;plain 1 2 0 0 0;plain 1 3 1 0 0;plain 0 4 1 0 0;"
            + "seats 2;cost 1 3;");
        cheap("0 and 3 are unlike", x, 0, 9);
        x.leave(3);
        cheap("0 and 4 differ in tale, 2 and 4 in all", x, 0, 20);
        x.leave(2);
        cheap("0 and 4, 1 and 4: one trade", x, 1, 17);
        x.leave(4);
        cheap("0 and 1: a trade, a tale", x, 4, 3);
    }

    private static void cheapApart() {
        DUE.says(25, "an UNLIKE set of SEATS: any two of it, not only those who stand side by side");
        cheap("0 and 2 of a town", Due.allHere("plain 0 0 0 0 0;plain 1 1 1 0 0;plain 2 0 2 0 0;cost 2 5;"), -4, -4);
        cheap("0 and 2 of a trade", Due.allHere("plain 0 0 0 0 0;plain 1 1 1 0 0;plain 0 2 2 0 0;cost 2 5;"), 2, 7);
        cheap("0 and 2 of a tale", Due.allHere("plain 0 0 0 0 0;plain 1 1 1 0 0;plain 2 2 0 0 0;cost 2 5;"), 5, 7);
        String five = "plain 1 1 1 0 0;plain 2 2 2 0 0;plain 3 3 3 0 0;seats 5;cost 2 5;";
        cheap("the first and the last of five, of a town", Due.allHere("plain 0 0 0 0 0;" + five + "plain 4 0 4 0 0;"), -4, -4);
        cheap("of a trade and a tale", Due.allHere("plain 0 0 0 0 0;" + five + "plain 0 4 0 0 0;"), 7, 31);
    }

    private static void cheapHere() {
        DUE.says(25, "of ONES HERE, those ABOARD too");
        UnlikeFerry x = Due.fiveWays();
        cheap("one waits, one is aboard", x, 0, 6);
        x.turn(1, 0, 2);
        x.turn(1, 2, 2);
        cheap("alike in trade and tale", x, 2, 6);
        x.turn(1, 1, 2);
        cheap("alike in town", x, -4, -4);
        x.come(0);
        cheap("one more came", x, 0, 3);
        // An UNLIKE set of SEATS, not a FILLING: 2, who is aboard, need not be in it.
        UnlikeFerry y = Due.allHere("plain 0 0 0 9 0;plain 1 1 1 9 0;plain 0 0 1 9 0;seats 2;");
        y.board(2);
        cheap("2 is aboard, alike with both", y, 0, 3);
    }

    private static void sendRefused() {
        DUE.says(26, "of a TOWN (0 to 5) .. BAD");
        for (UnlikeFerry x : new UnlikeFerry[] {new UnlikeFerry(), Due.fiveWays()}) {
            int[][] wrong = {{-1, 0}, {6, 0}, {-1, 1}, {6, 1}, {0, -1}, {0, 2}, {5, 2}, {6, 2}};
            for (int[] w : wrong) {
                DUE.is("send(" + w[0] + ", " + w[1] + ")", x.send(w[0], w[1]), -1);
            }
            for (int far : Due.FAR) {
                DUE.is("send(" + far + ", 0)", x.send(far, 0), -1);
                DUE.is("send(0, " + far + ")", x.send(0, far), -1);
            }
        }
    }

    private static void send(String when, UnlikeFerry x, int town, int pairs, int least) {
        DUE.is(when + ", send(" + town + ", 0)", x.send(town, 0), pairs);
        DUE.is(when + ", send(" + town + ", 1)", x.send(town, 1), least);
    }

    private static void sendNone() {
        DUE.says(26, "NONE (1): there is none");
        for (int town = 0; town <= 5; town++) {
            send("nobody", new UnlikeFerry(), town, 0, -4);
        }
        UnlikeFerry x = Due.allHere("plain 0 4 0 9 0;seats 2;");
        for (int town = 0; town <= 5; town++) {
            send("one of town 4", x, town, town == 4 ? 0 : 25, town == 4 ? -4 : 11);
        }
    }

    private static void sendOfFew() {
        DUE.says(26, "Were a plain ONE more HERE: too few with him, just enough, a tenth");
        for (int here = 0; here <= 9; here++) {
            UnlikeFerry x = EdgeBoatsTest.lastWait(here);
            for (int seats = 2; seats <= 5; seats++) {
                x.seats(seats);
                boolean none = here + 1 < seats;
                send(here + " here, " + seats + " seats", x, 5, none ? 0 : 36, none ? -4 : 0);
            }
            DUE.is("rule(0), he is not there", x.rule(0), 9);
        }
    }

    private static void sendLeast() {
        DUE.says(26, "the least, 10 times TRADE and TALE (1)");
        UnlikeFerry x = Due.allHere("plain 0 0 0 9 0;plain 1 1 1 9 0;plain 2 2 2 9 0;plain 3 3 3 9 0;seats 5;");
        send("four wait", x, 4, 4, 44);
        send("four wait", x, 3, 0, -4);
        for (int p = 0; p < 4; p++) {
            x.board(p);
        }
        send("four are aboard", x, 5, 4, 44);
        UnlikeFerry y = Due.allHere("plain 0 0 5 9 0;seats 2;");
        send("trade 0, tale 5", y, 1, 25, 10);
        y.teach(0, 4);
        send("a jack, tale 5", y, 1, 30, 0);
        y.teach(0, 1);
        send("a liar, trade 0", y, 1, 30, 10);
        UnlikeFerry z = Due.allHere("jack 0 0 0 9 0;seats 2;");
        send("a jack, tale 0", z, 1, 30, 1);
    }

    private static void sendWithHim() {
        DUE.says(26, "a FILLING with him, all who are ABOARD in it");
        UnlikeFerry x = Due.allHere("plain 0 0 0 9 0;plain 1 1 1 9 0;seats 2;");
        send("by one of two", x, 0, 25, 0);
        x.board(0);
        send("0 is aboard, of his town", x, 0, 0, -4);
        DUE.is("a FILLING without him", x.fill(0), 1);
        send("0 is aboard, of the other's town", x, 1, 25, 11);
        UnlikeFerry y = Due.fiveWays();
        send("others are not HERE", y, 3, 25, 0);
        send("others are not HERE", y, 4, 25, 0);
    }

    private static void lastRefused() {
        DUE.says(27, "BAD");
        UnlikeFerry x = Due.fiveWays();
        for (int set : new int[] {-1, -2, 64, 65, 66, 128, 511, 512, 513, Integer.MIN_VALUE, Integer.MAX_VALUE}) {
            DUE.is("last(" + set + ") of six", x.last(set), -1);
        }
        UnlikeFerry nine = EdgeBoatsTest.lastWait(9);
        DUE.is("last(511) of nine", nine.last(511), -2);
        DUE.is("last(512) of nine", nine.last(512), -1);
        DUE.is("last(513) of nine", nine.last(513), -1);
        DUE.is("last(1) of nobody", new UnlikeFerry().last(1), -1);
        DUE.is("last(0) of nobody", new UnlikeFerry().last(0), -2);
        DUE.is("last(-1) of nobody", new UnlikeFerry().last(-1), -1);
    }

    private static void lastState() {
        DUE.says(27, "STATE: the set is not of one less");
        UnlikeFerry x = EdgeBoatsTest.lastWait(9);
        for (int seats = 2; seats <= 5; seats++) {
            x.seats(seats);
            for (int many = 0; many <= 9; many++) {
                int set = (1 << many) - 1;
                DUE.is(seats + " seats, last(" + set + ")", x.last(set), many == seats - 1 ? 511 & ~set : -2);
            }
        }
        DUE.says(27, "STATE: .. not all are HERE");
        UnlikeFerry y = Due.fiveWays();
        int[] due = {-2, 4, 2, -2, -2, -2};
        for (int p = 0; p < due.length; p++) {
            DUE.is("last(" + (1 << p) + ")", y.last(1 << p), due[p]);
        }
        y.board(1);
        DUE.is("last(2), he sailed", y.last(2), -2);
        UnlikeFerry z = EdgeBoatsTest.lastWait(5);
        DUE.is("one of two is HERE", z.last(8 + 16), -2);
        DUE.is("both are HERE", z.last(16 + 32), 64 + 128 + 256);
    }

    private static void lastOfSeats() {
        DUE.says(27, "ONES HERE who, with a set, make it an UNLIKE set of SEATS: nobody, if none is left");
        for (int seats = 2; seats <= 5; seats++) {
            UnlikeFerry x = EdgeBoatsTest.lastWait(seats);
            x.seats(seats);
            int here = (1 << seats) - 1 << 9 - seats;
            DUE.is(seats + " seats, the last one", x.last(here & ~256), 256);
            DUE.is(seats + " seats, the first one", x.last(here & ~(1 << 9 - seats)), 1 << 9 - seats);
            x.leave(8);
            DUE.is(seats + " seats, none is left", x.last(here & ~256), 0);
        }
    }

    private static void lastUnlike() {
        DUE.says(27, "an UNLIKE set of SEATS: not with a set that is ALIKE, nor one ALIKE with it");
        UnlikeFerry x = Due.allHere("plain 0 0 0 9 0;plain 0 1 1 9 0;plain 2 2 2 9 0;plain 3 3 2 9 0;plain 4 4 4 9 0;");
        DUE.is("last(3), alike", x.last(3), 0);
        DUE.is("last(5)", x.last(5), 16);
        DUE.is("last(17)", x.last(17), 12);
        DUE.is("last(24)", x.last(24), 3);
        DUE.is("last(12), alike", x.last(12), 0);
        x.board(2);
        DUE.is("last(17), one aboard is not in it", x.last(17), 12);
        DUE.is("last(24), alike with one aboard", x.last(24), 3);
    }
}
