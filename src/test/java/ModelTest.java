import java.util.Random;

/** Runs of 512 calls by a fixed seed, each answer held against the plain second ferry's. */
final class ModelTest {
    /** No more calls of one object are promised. */
    private static final int CALLS = 512;
    /** From here on there is room for one step more and for all that is asked at the end. */
    private static final int LAST_STEP = 435;
    private static final String[] KINDS = {"plain", "plain", "plain", "liar", "admiral", "nameless", "jack"};
    private static final int[] ODD = {Integer.MIN_VALUE, Integer.MIN_VALUE + 1, -100, -21, -20, -11, -5, -4, -3, -2, -1, 6, 7, 8,
        9, 10, 11, 12, 20, 21, 30, 31, 40, 41, 60, 61, 127, 128, 160, 161, 255, 256, 511, 512, 513, 999, 1000, 65536,
        Integer.MAX_VALUE - 1, Integer.MAX_VALUE};
    private final Random random;
    private final UnlikeFerry ferry = new UnlikeFerry();
    private final Model model = new Model();
    private final Due due;
    private final int run;
    private int calls = 0;

    private ModelTest(int run, Due due) {
        this.run = run;
        this.due = due;
        random = new Random(77L * run + 5);
    }

    public static void main(String[] args) {
        Due due = new Due();
        for (int run = 0; run < 4000; run++) {
            new ModelTest(run, due).play();
        }
        due.finish("ModelTest");
    }

    private void same(String call, long got, long want) {
        calls++;
        due.is("run " + run + ", call " + calls + ": " + call, got, want);
    }

    private int any(int least, int most) {
        return random.nextInt(16) == 0 ? ODD[random.nextInt(ODD.length)] : least + random.nextInt(most - least + 1);
    }

    private String line() {
        StringBuilder s = new StringBuilder();
        int spread = 2 + random.nextInt(5);
        s.append(KINDS[random.nextInt(KINDS.length)]);
        for (int i = 0; i < 5; i++) {
            int most = i < 3 ? Math.min(6, spread) : i == 3 ? 10 : 4;
            s.append(random.nextInt(40) == 0 ? "" : " ").append(random.nextInt(most));
        }
        return s.append(';').toString();
    }

    private String someText() {
        StringBuilder s = new StringBuilder();
        int ones = random.nextInt(8) == 0 ? random.nextInt(3) : 4 + random.nextInt(6);
        for (int i = 0; i < ones && s.length() < 120; i++) {
            s.append(line());
        }
        if (random.nextInt(2) == 0) {
            s.append("seats ").append(2 + random.nextInt(4)).append(';');
        }
        if (random.nextInt(3) == 0) {
            s.append("cost ").append(random.nextInt(10)).append(' ').append(random.nextInt(10)).append(';');
        }
        for (int p = 0; p < ones; p++) {
            if (random.nextInt(4) == 0) {
                s.append("here ").append(p).append(';');
            }
        }
        return random.nextInt(4) == 0 ? spoilt(s) : s.toString();
    }

    private String spoilt(StringBuilder s) {
        String[] wrongs = {"9", "10", "6", "123", "x", "A", ";", " ", "seats 3;", "cost 1 1;", "here 1;", "here 8;", "here", "\n",
            "plain", "plains 0 0 0 0 0;", "12", "jack 0 0 0 0 0;", "  ", "07", "\u007f", "\0"};
        for (int i = 0; i < 1 + random.nextInt(2); i++) {
            int at = random.nextInt(s.length() + 1);
            if (random.nextInt(3) == 0 && at < s.length()) {
                s.deleteCharAt(at);
            } else {
                s.insert(at, wrongs[random.nextInt(wrongs.length)]);
            }
        }
        return s.toString();
    }

    private void tell() {
        String text = someText();
        for (int i = 0; i < text.length(); i++) {
            same("feed(" + (int) text.charAt(i) + ")", ferry.feed(text.charAt(i)), model.feed(text.charAt(i)));
        }
        same("text() of " + text, ferry.text(), model.text());
        same("fault()", ferry.fault(), model.fault());
    }

    private void play() {
        tell();
        for (int p = 0; p < model.rule(0); p++) {
            if (random.nextInt(2) == 0) {
                same("come(" + p + ")", ferry.come(p), model.come(p));
            }
        }
        while (calls < LAST_STEP) {
            switch (random.nextInt(5)) {
                case 0: change(); break;
                case 1: ask(); break;
                case 2: look(); break;
                case 3: sheets(); break;
                default: bytes(); break;
            }
            compareSome();
        }
        compareAll();
        while (calls < CALLS) {
            compareSome();
        }
        due.is("run " + run + ", calls", calls, CALLS);
    }

    private void change() {
        int p = any(0, 8);
        int v = any(0, 5);
        int what = any(0, 2);
        switch (random.nextInt(12)) {
            case 0: same("turn(" + p + "," + what + "," + v + ")", ferry.turn(p, what, v), model.turn(p, what, v)); break;
            case 1: same("teach(" + p + "," + v + ")", ferry.teach(p, v), model.teach(p, v)); break;
            case 2: same("calm(" + p + "," + v + ")", ferry.calm(p, v), model.calm(p, v)); break;
            case 3: same("seats(" + v + ")", ferry.seats(v), model.seats(v)); break;
            case 4: same("price(" + what + "," + v + ")", ferry.price(what, v), model.price(what, v)); break;
            case 5: case 6: same("come(" + p + ")", ferry.come(p), model.come(p)); break;
            case 7: same("leave(" + p + ")", ferry.leave(p), model.leave(p)); break;
            case 8: case 9: case 10: same("board(" + p + ")", ferry.board(p), model.board(p)); break;
            default:
                int n = random.nextInt(3) == 0 ? any(0, 30) : any(0, 2);
                same("go(" + n + ")", ferry.go(n), model.go(n));
                break;
        }
    }

    private void ask() {
        int what = any(0, 3);
        int which = any(0, 1);
        int v = any(0, 10);
        int n = any(2, 5);
        int town = any(0, 5);
        int set = random.nextInt(3) == 0 ? any(0, 511) : 1 << random.nextInt(9) | 1 << random.nextInt(9);
        same("most(" + n + ")", ferry.most(n), model.most(n));
        same("sets(" + what + ")", ferry.sets(what), model.sets(what));
        same("fill(" + which + ")", ferry.fill(which), model.fill(which));
        same("let(" + which + ")", ferry.let(which), model.let(which));
        same("cheap(" + which + ")", ferry.cheap(which), model.cheap(which));
        same("send(" + town + "," + which + ")", ferry.send(town, which), model.send(town, which));
        same("last(" + set + ")", ferry.last(set), model.last(set));
        if (random.nextInt(12) == 0) {
            same("odds(" + v + "," + which + ")", ferry.odds(v, which), model.odds(v, which));
            same("mean(" + v + "," + which + ")", ferry.mean(v, which), model.mean(v, which));
        }
    }

    private void look() {
        int p = any(0, 8);
        int n = any(0, 30);
        int what = any(0, 4);
        int seed = random.nextInt();
        int times = any(1, 60);
        boolean is = random.nextBoolean();
        switch (random.nextInt(4)) {
            case 0:
                same("ahead(" + n + "," + what + ")", ferry.ahead(n, what), model.ahead(n, what));
                same("when(" + p + ")", ferry.when(p), model.when(p));
                break;
            case 1:
                same("see(" + p + "," + is + ")", ferry.see(p, is), model.see(p, is));
                same("fits(" + what + ")", ferry.fits(what), model.fits(what));
                break;
            case 2:
                int some = any(0, 6);
                same("forget(" + some + ")", ferry.forget(some), model.forget(some));
                break;
            default:
                same("drift(" + seed + "," + times + "," + what + ")", ferry.drift(seed, times, what),
                    model.drift(seed, times, what));
                break;
        }
    }

    private void sheets() {
        int k = any(0, 3);
        int lane = any(0, 2);
        int n = any(0, 5);
        int i = any(0, 5);
        int v = any(0, 8) + (random.nextInt(6) == 0 ? 256 << 8 * random.nextInt(3) : 0);
        switch (random.nextInt(8)) {
            case 0: same("keep(" + k + ")", ferry.keep(k), model.keep(k)); break;
            case 1: same("back(" + k + ")", ferry.back(k), model.back(k)); break;
            case 2: same("sheet(" + k + "," + lane + "," + n + ")", ferry.sheet(k, lane, n), model.sheet(k, lane, n)); break;
            case 3: case 4: same("lay(" + k + "," + i + "," + v + ")", ferry.lay(k, i, v), model.lay(k, i, v)); break;
            default:
                same("read(" + k + "," + lane + "," + i + "," + n + ")", ferry.read(k, lane, i, n), model.read(k, lane, i, n));
                break;
        }
    }

    private void bytes() {
        if (random.nextInt(10) == 0 && calls + 200 < LAST_STEP) {
            tell();
            return;
        }
        int c = any(0, 127);
        int n = any(0, 5);
        same("feed(" + c + ")", ferry.feed(c), model.feed(c));
        same("end(" + n + ")", ferry.end(n), model.end(n));
    }

    private void compareSome() {
        int p = any(-1, 9);
        int what = any(-1, 10);
        switch (random.nextInt(7)) {
            case 0: same("rule(" + what + ")", ferry.rule(what), model.rule(what)); break;
            case 1: same("count(" + what + ")", ferry.count(what), model.count(what)); break;
            case 2: same("one(" + p + "," + what + ")", ferry.one(p, what), model.one(p, what)); break;
            case 3: same("alike(" + p + ")", ferry.alike(p), model.alike(p)); break;
            case 4: same("blocks(" + p + ")", ferry.blocks(p), model.blocks(p)); break;
            case 5: same("torn()", ferry.torn(), model.torn()); break;
            default: same("fault()", ferry.fault(), model.fault()); break;
        }
    }

    private void compareAll() {
        for (int what = -1; what <= 10; what++) {
            same("rule(" + what + ")", ferry.rule(what), model.rule(what));
            same("count(" + what + ")", ferry.count(what), model.count(what));
        }
        same("torn()", ferry.torn(), model.torn());
        same("fault()", ferry.fault(), model.fault());
        for (int p = -1; p <= 9; p++) {
            int what = any(0, 6);
            same("one(" + p + "," + what + ")", ferry.one(p, what), model.one(p, what));
            same("alike(" + p + ")", ferry.alike(p), model.alike(p));
            same("blocks(" + p + ")", ferry.blocks(p), model.blocks(p));
        }
    }
}
