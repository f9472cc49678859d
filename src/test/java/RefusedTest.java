import java.util.ArrayList;
import java.util.List;
import java.util.function.Supplier;

/**
 * What is refused changes nothing, nor does what only asks. Beside each object that is called stands a twin that is not;
 * then both are asked for all that they hold, and what they answer is the same.
 */
final class RefusedTest {
    private static final int[] SOME = {Integer.MIN_VALUE, -1, 0, 1, 2, 3, 4, 5, 6, 7, 9, 10, 11, 20, 21, 30, 31, 40, 41, 60, 61, 127,
        128, 511, 512, Integer.MAX_VALUE};
    private static final int[] FEWER = {Integer.MIN_VALUE, -1, 0, 1, 2, 3, 4, 5, 6, 40, 41, Integer.MAX_VALUE};
    private static final Due DUE = new Due();
    private static final List<String> NAMES = new ArrayList<>();
    private static final List<Call> ASKS = new ArrayList<>();
    private static final List<String> CHANGE_NAMES = new ArrayList<>();
    private static final List<Call> CHANGES = new ArrayList<>();

    private interface Call {
        long on(UnlikeFerry x);
    }

    public static void main(String[] args) {
        for (int a : SOME) {
            withOne(a);
            for (int b : SOME) {
                withTwo(a, b);
            }
        }
        for (int a : FEWER) {
            for (int b : FEWER) {
                for (int c : FEWER) {
                    withThree(a, b, c);
                }
            }
        }
        withNoneAndFour();
        List<Supplier<UnlikeFerry>> scenes =
            List.of(UnlikeFerry::new, RefusedTest::full, RefusedTest::late, RefusedTest::fullTape, RefusedTest::alike);
        for (int s = 0; s < scenes.size(); s++) {
            hold(s, scenes.get(s));
            textsRefused(s, scenes.get(s));
        }
        DUE.finish("RefusedTest");
    }

    private static void ask(String name, Call call) {
        NAMES.add(name);
        ASKS.add(call);
    }

    private static void change(String name, Call call) {
        CHANGE_NAMES.add(name);
        CHANGES.add(call);
    }

    private static void withOne(int a) {
        String of = "(" + a + ")";
        ask("rule" + of, x -> x.rule(a));
        ask("alike" + of, x -> x.alike(a));
        ask("when" + of, x -> x.when(a));
        ask("blocks" + of, x -> x.blocks(a));
        ask("most" + of, x -> x.most(a));
        ask("sets" + of, x -> x.sets(a));
        ask("fill" + of, x -> x.fill(a));
        ask("let" + of, x -> x.let(a));
        ask("cheap" + of, x -> x.cheap(a));
        ask("last" + of, x -> x.last(a));
        ask("fits" + of, x -> x.fits(a));
        ask("count" + of, x -> x.count(a));
        change("feed" + of, x -> x.feed(a));
        change("end" + of, x -> x.end(a));
        change("seats" + of, x -> x.seats(a));
        change("come" + of, x -> x.come(a));
        change("leave" + of, x -> x.leave(a));
        change("board" + of, x -> x.board(a));
        change("go" + of, x -> x.go(a));
        change("forget" + of, x -> x.forget(a));
        change("keep" + of, x -> x.keep(a));
        change("back" + of, x -> x.back(a));
        change("see true" + of, x -> x.see(a, true));
        change("see false" + of, x -> x.see(a, false));
    }

    private static void withTwo(int a, int b) {
        String of = "(" + a + ", " + b + ")";
        ask("one" + of, x -> x.one(a, b));
        ask("ahead" + of, x -> x.ahead(a, b));
        ask("send" + of, x -> x.send(a, b));
        ask("odds" + of, x -> x.odds(a, b));
        ask("mean" + of, x -> x.mean(a, b));
        change("teach" + of, x -> x.teach(a, b));
        change("calm" + of, x -> x.calm(a, b));
        change("price" + of, x -> x.price(a, b));
    }

    private static void withThree(int a, int b, int c) {
        String of = "(" + a + ", " + b + ", " + c + ")";
        ask("drift" + of, x -> x.drift(a, b, c));
        change("turn" + of, x -> x.turn(a, b, c));
        change("sheet" + of, x -> x.sheet(a, b, c));
        change("lay" + of, x -> x.lay(a, b, c));
    }

    private static void withNoneAndFour() {
        ask("fault()", UnlikeFerry::fault);
        ask("torn()", UnlikeFerry::torn);
        for (int k = -1; k <= 4; k++) {
            for (int lane = -1; lane <= 3; lane++) {
                for (int f : new int[] {Integer.MIN_VALUE, -1, 0, 1, 2, 3, 39, 40, Integer.MAX_VALUE}) {
                    for (int n : new int[] {-1, 0, 1, 2, 3, 20, 21}) {
                        int sheet = k;
                        int as = lane;
                        change("read(" + k + ", " + lane + ", " + f + ", " + n + ")", x -> x.read(sheet, as, f, n));
                    }
                }
            }
        }
    }

    // ---- the scenes

    /** Everything there can be is there: ONES in every way, IMAGES, all that can be SEEN, SHEETS, bytes, FAULTS. */
    private static UnlikeFerry full() {
        UnlikeFerry x = Due.fiveWays();
        x.keep(0);
        x.turn(1, 0, 5);
        x.price(0, 7);
        x.keep(1);
        Due.tell(x, "5");
        for (int i = 0; i < 3; i++) {
            x.see(0, true);
            x.see(2, false);
        }
        x.sheet(0, 0, 2);
        x.lay(0, 0, 1);
        x.lay(0, 1, 7);
        x.sheet(1, 1, 0);
        x.sheet(2, 2, 40);
        x.lay(2, 0, 1);
        x.read(1, 2, 0, 1);
        Due.feed(x, "seats 4;");
        return x;
    }

    /** The last HOUR that there can be, a boat with one free place. */
    private static UnlikeFerry late() {
        UnlikeFerry x = Due.told("admiral0 0 0 9 0;admiral0 0 0 9 0;plain 0 0 0 9 9;plain 1 1 1 9 9;seats 5;cost 3 4;");
        x.come(2);
        x.board(2);
        for (int i = 0; i < 33; i++) {
            x.go(30);
        }
        x.go(9);
        x.board(3);
        x.sheet(0, 1, 3);
        x.lay(0, 0, 3);
        x.lay(0, 2, 1);
        return x;
    }

    private static UnlikeFerry fullTape() {
        UnlikeFerry x = Due.told("liar 0 0 0 9 9;here 0;");
        x.see(0, true);
        x.keep(1);
        Due.feed(x, "cost 9 9;" + " ".repeat(143) + "seats 2;");
        return x;
    }

    /** Four of a trade, one of them aboard: none of the others can board. */
    private static UnlikeFerry alike() {
        UnlikeFerry x = Due.told("plain 0 0 0 9 0;plain 0 1 1 9 0;plain 0 2 2 9 0;plain 0 3 3 9 0;here 0;here 1;here 3;");
        x.board(1);
        x.sheet(3, 0, 3);
        x.lay(3, 0, 0);
        x.lay(3, 1, 3);
        x.lay(3, 2, 9);
        return x;
    }

    // ---- what they hold

    private static void told(StringBuilder s, UnlikeFerry x) {
        for (int what = 0; what < 10; what++) {
            s.append(x.rule(what)).append(' ');
        }
        for (int p = 0; p < x.rule(0); p++) {
            for (int what = 0; what < 7; what++) {
                s.append(x.one(p, what)).append(' ');
            }
        }
    }

    /** What an object holds, at first what can be asked, then what shows only by calls that change it. */
    private static String portrait(UnlikeFerry x, boolean withFault) {
        StringBuilder s = new StringBuilder();
        told(s, x);
        for (int what = 0; what < 7; what++) {
            s.append(x.count(what)).append(' ');
        }
        s.append(withFault ? x.fault() : 0).append(' ').append(x.torn()).append(' ');
        for (int what = 0; what < 4; what++) {
            s.append(x.fits(what)).append(' ');
        }
        for (int k = 0; k < 4; k++) {
            for (int lane = 0; lane < 3; lane++) {
                s.append(x.read(k, lane, 0, 2)).append(' ').append(x.rule(7)).append(' ').append(x.torn()).append(' ');
            }
        }
        for (int k = 0; k < 2; k++) {
            s.append(x.back(k)).append(' ');
            told(s, x);
        }
        s.append(x.text()).append(' ').append(x.fault()).append(' ').append(x.rule(1)).append(' ').append(x.rule(2));
        return s.toString();
    }

    private static void same(String call, String got, String want) {
        if (!got.equals(want)) {
            System.out.println(call + ": it holds " + got + ", its twin " + want);
        }
        DUE.is(call, got.equals(want) ? 1 : 0, 1);
    }

    private static void hold(int scene, Supplier<UnlikeFerry> made) {
        String twin = portrait(made.get(), true);
        DUE.termsSay("what is asked changes nothing, scene " + scene);
        for (int i = 0; i < ASKS.size(); i++) {
            UnlikeFerry x = made.get();
            ASKS.get(i).on(x);
            same(NAMES.get(i), portrait(x, true), twin);
        }
        DUE.termsSay("what is refused changes nothing, scene " + scene);
        for (int i = 0; i < CHANGES.size(); i++) {
            UnlikeFerry x = made.get();
            if (CHANGES.get(i).on(x) < 0) {
                same(CHANGE_NAMES.get(i), portrait(x, true), twin);
            }
        }
    }

    private static void textsRefused(int scene, Supplier<UnlikeFerry> made) {
        DUE.termsSay("what is refused changes nothing (but THE TAPE, as told), scene " + scene);
        UnlikeFerry emptied = made.get();
        emptied.end(0);
        String twin = portrait(emptied, false);
        String[] texts = {"$", "seats 2;cost 5 5;;", "jack0 0 0 0 0;seats 6;", "jack0 0 0 0 0;seats 2;seats", "jack0 0 0 0 0;here 1;",
            "cost 3 4;jack0 0 0 0 0;here 0;here 0;"};
        for (String text : texts) {
            UnlikeFerry x = made.get();
            x.end(0);
            DUE.is("text() of " + text, Due.tell(x, text) < 0 ? 1 : 0, 1);
            same("text() of " + text, portrait(x, false), twin);
            for (boolean asks : new boolean[] {true, false}) {
                UnlikeFerry y = made.get();
                y.end(0);
                Due.tell(y, text);
                UnlikeFerry other = made.get();
                other.end(0);
                same("asked behind text() of " + text, asked(y, asks), asked(other, asks));
            }
        }
    }

    /** What an object answers about all that was told, or how it changes it. */
    private static String asked(UnlikeFerry x, boolean asks) {
        StringBuilder s = new StringBuilder();
        for (int p = 0; p < 6; p++) {
            if (asks) {
                s.append(x.alike(p)).append(' ').append(x.blocks(p)).append(' ').append(x.last(1 << p)).append(' ');
                s.append(x.send(p, 0)).append(' ').append(x.send(p, 1)).append(' ').append(x.most(p)).append(' ');
            } else {
                s.append(x.turn(p, 1, 5 - p)).append(' ').append(x.teach(p, p)).append(' ').append(x.calm(p, 3)).append(' ');
                s.append(x.come(p)).append(' ').append(x.leave(p)).append(' ').append(x.see(p, true)).append(' ');
            }
        }
        for (int what = 0; what < 4; what++) {
            s.append(x.mean(3, what)).append(' ').append(x.odds(3, what)).append(' ').append(x.sets(what)).append(' ');
            s.append(x.fill(what)).append(' ').append(x.let(what)).append(' ').append(x.cheap(what)).append(' ');
            s.append(x.fits(what)).append(' ');
        }
        // These look ahead from what is, and come last: behind them nothing of a refused text could be found.
        return s.append(asks ? x.when(1) : x.drift(5, 20, 1)).append(' ').append(x.ahead(3, 3)).toString();
    }
}
