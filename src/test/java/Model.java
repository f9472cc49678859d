import java.math.BigInteger;
import java.util.ArrayList;
import java.util.Arrays;
import java.util.List;

/**
 * A second ferry, written from the document alone in the slowest and plainest way, against which ModelTest holds the
 * class. It counts people, not bits, tries everything, and lets the machine itself find the faults of sheets.
 */
final class Model {
    private static final int BAD = -1, STATE = -2, FULL = -3, NONE = -4;
    private static final List<String> KINDS = List.of("plain", "liar", "admiral", "nameless", "jack");

    private static final class Person {
        int kind, trade, town, tale, patience, comes, is;

        Person copy() {
            Person c = new Person();
            c.kind = kind;
            c.trade = trade;
            c.town = town;
            c.tale = tale;
            c.patience = patience;
            c.comes = comes;
            c.is = is;
            return c;
        }

        boolean unlike(Person o) {
            if (kind == 2 || o.kind == 2) {
                return true;
            }
            boolean trades = trade != o.trade || kind == 4 || o.kind == 4;
            boolean towns = town != o.town || kind == 3 || o.kind == 3;
            boolean tales = tale != o.tale || kind == 1 || o.kind == 1;
            return trades && towns && tales;
        }
    }

    private static final class World {
        List<Person> all = new ArrayList<>();
        int seats = 3, tradeCost = 1, taleCost = 1, hour = 0, boats = 0;

        World copy() {
            World w = new World();
            for (Person p : all) {
                w.all.add(p.copy());
            }
            w.seats = seats;
            w.tradeCost = tradeCost;
            w.taleCost = taleCost;
            w.hour = hour;
            w.boats = boats;
            return w;
        }

        List<Person> who(int is) {
            List<Person> some = new ArrayList<>();
            for (Person p : all) {
                if (p.is == is) {
                    some.add(p);
                }
            }
            return some;
        }

        List<Person> here() {
            List<Person> some = new ArrayList<>();
            for (Person p : all) {
                if (p.is == 1 || p.is == 2) {
                    some.add(p);
                }
            }
            return some;
        }

        int bits(List<Person> some) {
            int b = 0;
            for (Person p : some) {
                b += 1 << all.indexOf(p);
            }
            return b;
        }

        int board(int p) {
            if (p < 0 || p >= all.size()) {
                return BAD;
            }
            Person one = all.get(p);
            if (one.is != 1) {
                return STATE;
            }
            for (Person o : who(2)) {
                if (!o.unlike(one)) {
                    return NONE;
                }
            }
            one.is = 2;
            if (who(2).size() == seats) {
                for (Person o : who(2)) {
                    o.is = 3;
                }
                boats++;
            }
            return who(2).size();
        }

        void pass() {
            for (Person p : who(0)) {
                if (p.comes == hour) {
                    p.is = 1;
                }
            }
            for (int p = 0; p < all.size(); p++) {
                board(p);
            }
            for (Person p : who(1)) {
                if (p.patience == 0) {
                    p.is = 4;
                } else {
                    p.patience--;
                }
            }
            hour++;
        }
    }

    private static final class Fault extends Exception {
        private static final long serialVersionUID = 1;
        final int which, place;

        Fault(int which, int place) {
            this.which = which;
            this.place = place;
        }
    }

    private final StringBuilder tape = new StringBuilder();
    private World now = new World();
    private final World[] images = new World[2];
    private final List<int[]> seen = new ArrayList<>();
    private final Object[] sheets = new Object[4];
    private int fault = 0, torn = 0;

    private boolean no(int p) {
        return p < 0 || p >= now.all.size();
    }

    private static boolean out(int v, int least, int most) {
        return v < least || v > most;
    }

    // ---- the text

    int feed(int c) {
        if (out(c, 0, 127)) {
            return BAD;
        }
        if (tape.length() == 160) {
            return FULL;
        }
        tape.append((char) c);
        return tape.length();
    }

    int end(int n) {
        if (out(n, 0, tape.length())) {
            return BAD;
        }
        int had = tape.length();
        tape.setLength(n);
        return had;
    }

    private String source;
    private int at, start;

    /** The next token; an empty one at the end. */
    private String token() throws Fault {
        while (at < source.length() && source.charAt(at) == ' ') {
            at++;
        }
        start = at;
        if (at == source.length()) {
            return "";
        }
        String rest = source.substring(at);
        String longest = rest.replaceAll("(?s)^([a-z]+|[0-9]+|;|).*$", "$1");
        if (longest.isEmpty() || longest.matches("[0-9]{3,}")) {
            throw new Fault(1, start);
        }
        at += longest.length();
        return longest;
    }

    private int number(int least, int most) throws Fault {
        String t = token();
        if (!t.matches("[0-9]+")) {
            throw new Fault(2, start);
        }
        int v = Integer.parseInt(t);
        if (out(v, least, most)) {
            throw new Fault(3, start);
        }
        return v;
    }

    int text() {
        source = tape.toString();
        tape.setLength(0);
        at = 0;
        World w = new World();
        int lines = 0;
        fault = 0;
        List<Integer> here = new ArrayList<>();
        List<String> once = new ArrayList<>();
        try {
            for (String t = token(); !t.isEmpty(); t = token()) {
                line(t, w, here, once);
                if (!token().equals(";")) {
                    throw new Fault(2, start);
                }
                lines++;
            }
            for (int p : here) {
                if (p >= w.all.size()) {
                    throw new Fault(6, source.length());
                }
                w.all.get(p).is = 1;
            }
        } catch (Fault f) {
            fault = f.which;
            return -10 - f.place;
        }
        now = w;
        seen.clear();
        Arrays.fill(images, null);
        return lines;
    }

    private void line(String t, World w, List<Integer> here, List<String> once) throws Fault {
        if (KINDS.contains(t)) {
            if (w.all.size() == 9) {
                throw new Fault(5, start);
            }
            Person p = new Person();
            p.kind = KINDS.indexOf(t);
            p.trade = number(0, 5);
            p.town = number(0, 5);
            p.tale = number(0, 5);
            p.patience = number(0, 9);
            p.comes = number(0, 9);
            w.all.add(p);
        } else if (t.equals("here")) {
            int p = number(0, 8);
            if (here.contains(p)) {
                throw new Fault(4, start);
            }
            here.add(p);
        } else if (t.equals("seats") || t.equals("cost")) {
            if (once.contains(t)) {
                throw new Fault(4, start);
            }
            once.add(t);
            if (t.equals("seats")) {
                w.seats = number(2, 5);
            } else {
                w.tradeCost = number(0, 9);
                w.taleCost = number(0, 9);
            }
        } else {
            throw new Fault(2, start);
        }
    }

    int fault() {
        return fault;
    }

    int rule(int what) {
        int[] rules = {now.all.size(), now.seats, now.tradeCost, now.taleCost, now.hour, now.boats,
            now.bits(now.who(1)), now.bits(now.who(2)), now.bits(now.who(3)), now.bits(now.who(4))};
        return out(what, 0, 9) ? BAD : rules[what];
    }

    int one(int p, int what) {
        if (no(p) || out(what, 0, 6)) {
            return BAD;
        }
        Person o = now.all.get(p);
        return new int[] {o.kind, o.trade, o.town, o.tale, o.patience, o.comes, o.is}[what];
    }

    int alike(int p) {
        if (no(p)) {
            return BAD;
        }
        List<Person> some = new ArrayList<>();
        for (Person o : now.all) {
            if (o != now.all.get(p) && !o.unlike(now.all.get(p))) {
                some.add(o);
            }
        }
        return now.bits(some);
    }

    // ---- what is changed

    int turn(int p, int what, int v) {
        if (no(p) || out(what, 0, 2) || out(v, 0, 5)) {
            return BAD;
        }
        Person o = now.all.get(p);
        if (o.is == 2) {
            return STATE;
        }
        int was = one(p, what + 1);
        if (what == 0) {
            o.trade = v;
        } else if (what == 1) {
            o.town = v;
        } else {
            o.tale = v;
        }
        return was;
    }

    int teach(int p, int kind) {
        if (no(p) || out(kind, 0, 4)) {
            return BAD;
        }
        Person o = now.all.get(p);
        if (o.is == 2) {
            return STATE;
        }
        int was = o.kind;
        o.kind = kind;
        return was;
    }

    int calm(int p, int v) {
        if (no(p) || out(v, 0, 9)) {
            return BAD;
        }
        int was = now.all.get(p).patience;
        now.all.get(p).patience = v;
        return was;
    }

    int seats(int n) {
        if (out(n, 2, 5)) {
            return BAD;
        }
        if (now.who(2).size() >= n) {
            return STATE;
        }
        int was = now.seats;
        now.seats = n;
        return was;
    }

    int price(int what, int v) {
        if (out(what, 0, 1) || out(v, 0, 9)) {
            return BAD;
        }
        int was = rule(2 + what);
        if (what == 0) {
            now.tradeCost = v;
        } else {
            now.taleCost = v;
        }
        return was;
    }

    int come(int p) {
        if (no(p)) {
            return BAD;
        }
        if (now.all.get(p).is != 0) {
            return STATE;
        }
        now.all.get(p).is = 1;
        return now.who(1).size();
    }

    int leave(int p) {
        if (no(p)) {
            return BAD;
        }
        if (now.all.get(p).is != 1) {
            return STATE;
        }
        now.all.get(p).is = 4;
        return now.who(1).size();
    }

    int board(int p) {
        return now.board(p);
    }

    // ---- hours

    int go(int n) {
        if (out(n, 0, 30)) {
            return BAD;
        }
        if (now.hour + n > 999) {
            return FULL;
        }
        int before = now.boats;
        for (int i = 0; i < n; i++) {
            now.pass();
        }
        return now.boats - before;
    }

    int ahead(int n, int what) {
        if (out(n, 0, 30) || out(what, 0, 4)) {
            return BAD;
        }
        World w = now.copy();
        for (int i = 0; i < n; i++) {
            w.pass();
        }
        return what == 0 ? w.boats - now.boats : w.bits(w.who(what));
    }

    int when(int p) {
        if (no(p)) {
            return BAD;
        }
        for (int n = 0; n <= 30; n++) {
            if ((ahead(n, 3) & 1 << p) != 0) {
                return n;
            }
        }
        return NONE;
    }

    int blocks(int p) {
        return no(p) ? BAD : alike(p) & rule(7);
    }

    // ---- boats

    /** Every unlike set of a size out of some, in the order of their bits. */
    private static List<List<Person>> unlikeSets(World w, List<Person> out, int size, List<Person> must) {
        List<List<Person>> sets = new ArrayList<>();
        choose(out, 0, size, new ArrayList<>(), sets);
        sets.removeIf(s -> !s.containsAll(must));
        sets.sort((a, b) -> Integer.compare(w.bits(a), w.bits(b)));
        return sets;
    }

    private static void choose(List<Person> out, int from, int size, List<Person> some, List<List<Person>> sets) {
        if (some.size() == size) {
            sets.add(new ArrayList<>(some));
            return;
        }
        for (int i = from; i < out.size(); i++) {
            Person next = out.get(i);
            if (some.stream().allMatch(next::unlike)) {
                some.add(next);
                choose(out, i + 1, size, some, sets);
                some.remove(some.size() - 1);
            }
        }
    }

    private static int mostSets(World w, List<Person> out, int size) {
        return mostOf(unlikeSets(w, out, size, List.of()), 0, new ArrayList<>());
    }

    private static int mostOf(List<List<Person>> sets, int from, List<Person> used) {
        int best = 0;
        for (int i = from; i < sets.size(); i++) {
            List<Person> set = sets.get(i);
            if (set.stream().noneMatch(used::contains)) {
                List<Person> more = new ArrayList<>(used);
                more.addAll(set);
                best = Math.max(best, 1 + mostOf(sets, i + 1, more));
            }
        }
        return best;
    }

    int most(int n) {
        return out(n, 2, 5) ? BAD : mostSets(now, now.here(), n);
    }

    private int tell(List<List<Person>> sets, int what, List<Person> pool) {
        if (what == 0) {
            return sets.size();
        }
        if (sets.isEmpty()) {
            return NONE;
        }
        if (what == 1) {
            return now.bits(sets.get(0));
        }
        List<Person> some = new ArrayList<>();
        for (Person p : pool) {
            boolean in = what == 2 ? sets.stream().allMatch(s -> s.contains(p)) : sets.stream().noneMatch(s -> s.contains(p));
            if (in) {
                some.add(p);
            }
        }
        return now.bits(some);
    }

    int sets(int what) {
        return out(what, 0, 3) ? BAD : tell(unlikeSets(now, now.here(), now.seats, List.of()), what, now.here());
    }

    int fill(int what) {
        return out(what, 0, 1) ? BAD : tell(unlikeSets(now, now.here(), now.seats, now.who(2)), what, now.here());
    }

    int let(int what) {
        if (out(what, 0, 1)) {
            return BAD;
        }
        int who = NONE;
        int boats = NONE;
        for (Person p : now.who(1)) {
            for (List<Person> filling : unlikeSets(now, now.here(), now.seats, now.who(2))) {
                if (filling.contains(p)) {
                    List<Person> others = now.here();
                    others.removeAll(filling);
                    int filled = 1 + mostSets(now, others, now.seats);
                    if (filled > boats) {
                        boats = filled;
                        who = now.all.indexOf(p);
                    }
                }
            }
        }
        return what == 0 ? who : boats;
    }

    int cheap(int what) {
        if (out(what, 0, 1)) {
            return BAD;
        }
        int least = Integer.MAX_VALUE;
        int leastSet = NONE;
        for (int bits = 1; bits < 1 << now.all.size(); bits++) {
            List<Person> set = new ArrayList<>();
            for (int p = 0; p < now.all.size(); p++) {
                if ((bits & 1 << p) != 0) {
                    set.add(now.all.get(p).copy());
                }
            }
            boolean here = set.stream().allMatch(p -> p.is == 1 || p.is == 2);
            if (set.size() == now.seats && here && !shareTown(set)) {
                int cost = cheapest(set, 0, 0, least);
                if (cost < least) {
                    least = cost;
                    leastSet = bits;
                }
            }
        }
        return leastSet == NONE ? NONE : what == 0 ? least : leastSet;
    }

    /** Whether no change of trades and tales can help, so that not all of them need be tried. */
    private static boolean shareTown(List<Person> set) {
        for (Person p : set) {
            for (Person o : set) {
                boolean counts = p.kind != 2 && p.kind != 3 && o.kind != 2 && o.kind != 3;
                if (p != o && counts && p.town == o.town) {
                    return true;
                }
            }
        }
        return false;
    }

    /** Tries every trade and tale for each of a set in turn, so long as it stays below a limit. */
    private int cheapest(List<Person> set, int i, int cost, int limit) {
        if (cost >= limit) {
            return limit;
        }
        if (i == set.size()) {
            return cost;
        }
        Person p = set.get(i);
        int trade = p.trade;
        int tale = p.tale;
        int best = limit;
        for (int a = 0; a < 6; a++) {
            for (int b = 0; b < 6; b++) {
                p.trade = a;
                p.tale = b;
                if (set.subList(0, i).stream().allMatch(p::unlike)) {
                    int more = (a == trade ? 0 : now.tradeCost) + (b == tale ? 0 : now.taleCost);
                    best = Math.min(best, cheapest(set, i + 1, cost + more, best));
                }
            }
        }
        p.trade = trade;
        p.tale = tale;
        return best;
    }

    int send(int town, int what) {
        if (out(town, 0, 5) || out(what, 0, 1)) {
            return BAD;
        }
        int pairs = 0;
        int least = NONE;
        for (int trade = 5; trade >= 0; trade--) {
            for (int tale = 5; tale >= 0; tale--) {
                World w = now.copy();
                Person guest = new Person();
                guest.town = town;
                guest.trade = trade;
                guest.tale = tale;
                guest.is = 1;
                w.all.add(guest);
                List<Person> must = w.who(2);
                must.add(guest);
                if (!unlikeSets(w, w.here(), w.seats, must).isEmpty()) {
                    pairs++;
                    least = 10 * trade + tale;
                }
            }
        }
        return what == 0 ? pairs : least;
    }

    int last(int set) {
        if (set < 0 || set >= 1 << now.all.size()) {
            return BAD;
        }
        List<Person> some = new ArrayList<>();
        for (int p = 0; p < now.all.size(); p++) {
            if ((set & 1 << p) != 0) {
                some.add(now.all.get(p));
            }
        }
        if (some.size() != now.seats - 1 || !now.here().containsAll(some)) {
            return STATE;
        }
        List<Person> lasts = new ArrayList<>();
        for (List<Person> full : unlikeSets(now, now.here(), now.seats, some)) {
            for (Person p : full) {
                if (!some.contains(p)) {
                    lasts.add(p);
                }
            }
        }
        return now.bits(lasts);
    }

    // ---- odds

    private BigInteger[] mean(int v, boolean fillingOnly) {
        List<Person> waits = now.who(1);
        BigInteger sum = BigInteger.ZERO;
        for (int stay = 0; stay < 1 << waits.size(); stay++) {
            List<Person> left = now.who(2);
            BigInteger weight = BigInteger.ONE;
            for (int i = 0; i < waits.size(); i++) {
                boolean stays = (stay & 1 << i) != 0;
                weight = weight.multiply(BigInteger.valueOf(stays ? 10 - v : v));
                if (stays) {
                    left.add(waits.get(i));
                }
            }
            int worth = fillingOnly
                ? (unlikeSets(now, left, now.seats, now.who(2)).isEmpty() ? 0 : 1)
                : mostSets(now, left, now.seats);
            sum = sum.add(weight.multiply(BigInteger.valueOf(worth)));
        }
        BigInteger whole = BigInteger.TEN.pow(waits.size());
        BigInteger common = sum.gcd(whole);
        return new BigInteger[] {sum.divide(common), whole.divide(common)};
    }

    long odds(int v, int what) {
        return out(v, 0, 10) || out(what, 0, 1) ? BAD : mean(v, true)[what].longValueExact();
    }

    long mean(int v, int what) {
        return out(v, 0, 10) || out(what, 0, 1) ? BAD : mean(v, false)[what].longValueExact();
    }

    // ---- who was aboard

    int see(int p, boolean is) {
        if (no(p)) {
            return BAD;
        }
        if (seen.size() == 6) {
            return FULL;
        }
        seen.add(new int[] {p, is ? 1 : 0});
        return seen.size();
    }

    int forget(int n) {
        if (out(n, 0, seen.size())) {
            return BAD;
        }
        int were = seen.size();
        seen.subList(n, were).clear();
        return were;
    }

    int fits(int what) {
        if (out(what, 0, 3)) {
            return BAD;
        }
        List<List<Person>> sets = unlikeSets(now, now.all, now.seats, List.of());
        for (int[] s : seen) {
            sets.removeIf(set -> set.contains(now.all.get(s[0])) != (s[1] == 1));
        }
        return tell(sets, what, now.all);
    }

    // ---- by a seed

    int drift(int seed, int n, int what) {
        if (out(n, 1, 60) || out(what, 0, 1)) {
            return BAD;
        }
        if (now.all.isEmpty()) {
            return STATE;
        }
        World w = now.copy();
        int s = seed;
        for (int i = 0; i < n; i++) {
            s = (int) ((long) s * 1103515245L + 12345L);
            long bits = (s & 0xffffffffL) / 65536 % 32768;
            w.board((int) (bits % w.all.size()));
        }
        return what == 0 ? w.boats - now.boats : w.bits(w.who(2));
    }

    // ---- images, sheets

    int keep(int k) {
        if (out(k, 0, 1)) {
            return BAD;
        }
        int was = images[k] == null ? 0 : 1;
        images[k] = now.copy();
        return was;
    }

    int back(int k) {
        if (out(k, 0, 1)) {
            return BAD;
        }
        if (images[k] == null) {
            return STATE;
        }
        now = images[k].copy();
        return now.hour;
    }

    int sheet(int k, int lane, int n) {
        if (out(k, 0, 3) || out(lane, 0, 2) || n > 40) {
            return BAD;
        }
        try {
            sheets[k] = lane == 0 ? new byte[n] : lane == 1 ? new short[n] : new int[n];
        } catch (NegativeArraySizeException e) {
            return -14;
        }
        return 1;
    }

    int lay(int k, int i, int v) {
        if (out(k, 0, 3)) {
            return BAD;
        }
        try {
            if (sheets[k] instanceof byte[] b) {
                b[i] = (byte) v;
            } else if (sheets[k] instanceof short[] s) {
                s[i] = (short) v;
            } else {
                ((int[]) sheets[k])[i] = v;
            }
        } catch (NullPointerException e) {
            return -11;
        } catch (ArrayIndexOutOfBoundsException e) {
            return -12;
        }
        return 1;
    }

    int read(int k, int lane, int f, int n) {
        if (out(k, 0, 3) || out(lane, 0, 2) || out(n, 0, 20)) {
            return BAD;
        }
        World w = now.copy();
        int found = 0;
        int came = 0;
        try {
            for (int i = 0; i < n; i++) {
                if (w.board(cell(sheets[k], lane, f + i)) < 0) {
                    return -20 - i;
                }
                came++;
            }
        } catch (NullPointerException e) {
            found = 1;
        } catch (ArrayIndexOutOfBoundsException e) {
            found = 2;
        } catch (ClassCastException e) {
            found = 3;
        }
        now = w;
        torn = found;
        return came;
    }

    private static int cell(Object sheet, int lane, int i) {
        switch (lane) {
            case 0: return ((byte[]) sheet)[i];
            case 1: return ((short[]) sheet)[i];
            default: return ((int[]) sheet)[i];
        }
    }

    int torn() {
        return torn;
    }

    int count(int what) {
        int pairs = 0;
        for (Person p : now.here()) {
            for (Person o : now.here()) {
                pairs += p != o && !p.unlike(o) ? 1 : 0;
            }
        }
        int cells = sheets[0] == null ? NONE : java.lang.reflect.Array.getLength(sheets[0]);
        int kept = (images[0] == null ? 0 : 1) + (images[1] == null ? 0 : 1);
        int[] counts = {seen.size(), kept, tape.length(), cells, now.who(1).size(), now.who(2).size(), pairs / 2};
        return out(what, 0, 6) ? BAD : counts[what];
    }
}
