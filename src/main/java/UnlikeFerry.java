/**
 * A ferry on which no two aboard may be alike in trade, town or tale, and which sails only when it is full.
 * The numbered promises of DOC.md say what each call answers and changes.
 */
public final class UnlikeFerry {
    public static final int BAD = -1, STATE = -2, FULL = -3, NONE = -4;

    private static final int MOST_ONES = 9;
    private static final int ALL_POOLS = 1 << MOST_ONES;
    /** Sets of four (or five) out of nine: no other size has more. */
    private static final int MOST_SETS = 126;
    private static final int LEAST_SEATS = 2, MOST_SEATS = 5, FIRST_SEATS = 3;
    private static final int MOST_VALUE = 5, MOST_FIGURE = 9, FIRST_COST = 1;
    private static final int MOST_HOURS = 30, HOURS_END = 1000;
    private static final int MOST_DRIFTS = 60;
    private static final int MOST_SEEN = 6;
    private static final int IMAGES = 2;
    private static final int SHEETS = 4, MOST_CELLS = 40, MOST_READ = 20;
    private static final int TAPE_BYTES = 160;
    private static final int ODDS_OF = 10;

    /** Places of a traveller's row, in the order in which one() asks for them. */
    private static final int KIND = 0, TRADE = 1, TOWN = 2, TALE = 3, PATIENCE = 4, COMES = 5, STAND = 6;
    private static final int ROW = 7;
    private static final int PLAIN = 0, LIAR = 1, ADMIRAL = 2, NAMELESS = 3, JACK = 4;
    private static final int TO_COME = 0, WAITS = 1, ABOARD = 2, SAILED = 3, GAVE_UP = 4;

    /** What the machine would find on a sheet. */
    private static final int NO_FAULT = 0, NULL_FAULT = 1, INDEX_FAULT = 2, CAST_FAULT = 3, SIZE_FAULT = 4;
    private static final int BYTES = 0, SHORTS = 1, INTS = 2;
    private static final int FAULT_BASE = -10, REFUSED_BASE = -20;

    private final Reader reader = new Reader();
    private final Tape tape = reader.tape;
    private final Crew now = new Crew();
    /** Calls that only look ahead, or may yet be refused, work here and leave what is now alone. */
    private final Crew trial = new Crew();
    private final Sets unlike = new Sets();
    private final Seen seen = new Seen();
    private final Crew[] images = new Crew[IMAGES];
    private final boolean[] imageStands = new boolean[IMAGES];
    private final Sheet[] sheets = new Sheet[SHEETS];
    private final int[] guest = new int[ROW];
    private int textFault = NO_FAULT;
    private int readFault = NO_FAULT;

    public UnlikeFerry() {
        for (int k = 0; k < IMAGES; k++) {
            images[k] = new Crew();
        }
        for (int k = 0; k < SHEETS; k++) {
            sheets[k] = new Sheet();
        }
    }

    // ---- the text, what there is

    public int feed(int c) {
        if (!isWithin(c, 0, 127)) {
            return BAD;
        }
        return tape.append(c) ? tape.length : FULL;
    }

    public int end(int n) {
        if (!isWithin(n, 0, tape.length)) {
            return BAD;
        }
        int had = tape.length;
        tape.length = n;
        return had;
    }

    public int text() {
        reader.tellAll();
        tape.length = 0;
        textFault = reader.fault;
        if (textFault != NO_FAULT) {
            return FAULT_BASE - reader.place;
        }
        now.copyFrom(reader.crew);
        seen.many = 0;
        for (int k = 0; k < IMAGES; k++) {
            imageStands[k] = false;
        }
        return reader.lines;
    }

    public int fault() {
        return textFault;
    }

    public int rule(int what) {
        switch (what) {
            case 0: return now.many;
            case 1: return now.places;
            case 2: return now.tradeCost;
            case 3: return now.taleCost;
            case 4: return now.hour;
            case 5: return now.boats;
            case 6: return now.those(WAITS);
            case 7: return now.those(ABOARD);
            case 8: return now.those(SAILED);
            case 9: return now.those(GAVE_UP);
            default: return BAD;
        }
    }

    public int one(int p, int what) {
        if (!now.has(p) || !isWithin(what, KIND, STAND)) {
            return BAD;
        }
        return now.ones[p][what];
    }

    public int alike(int p) {
        return now.has(p) ? now.rivalsOf(now.ones[p], p) : BAD;
    }

    // ---- what is changed

    public int turn(int p, int what, int v) {
        if (!now.has(p) || !isWithin(what, 0, 2) || !isWithin(v, 0, MOST_VALUE)) {
            return BAD;
        }
        return now.changeAshore(p, TRADE + what, v);
    }

    public int teach(int p, int kind) {
        if (!now.has(p) || !isWithin(kind, PLAIN, JACK)) {
            return BAD;
        }
        return now.changeAshore(p, KIND, kind);
    }

    public int calm(int p, int v) {
        if (!now.has(p) || !isWithin(v, 0, MOST_FIGURE)) {
            return BAD;
        }
        int was = now.ones[p][PATIENCE];
        now.ones[p][PATIENCE] = v;
        return was;
    }

    public int seats(int n) {
        if (!isWithin(n, LEAST_SEATS, MOST_SEATS)) {
            return BAD;
        }
        if (now.howMany(ABOARD) >= n) {
            return STATE;
        }
        int were = now.places;
        now.places = n;
        return were;
    }

    public int price(int what, int v) {
        if (!isWithin(what, 0, 1) || !isWithin(v, 0, MOST_FIGURE)) {
            return BAD;
        }
        int was = what == 0 ? now.tradeCost : now.taleCost;
        if (what == 0) {
            now.tradeCost = v;
        } else {
            now.taleCost = v;
        }
        return was;
    }

    public int come(int p) {
        return moveOne(p, TO_COME, WAITS);
    }

    public int leave(int p) {
        return moveOne(p, WAITS, GAVE_UP);
    }

    private int moveOne(int p, int from, int to) {
        if (!now.has(p)) {
            return BAD;
        }
        if (now.ones[p][STAND] != from) {
            return STATE;
        }
        now.ones[p][STAND] = to;
        return now.howMany(WAITS);
    }

    public int board(int p) {
        return now.takeAboard(p);
    }

    // ---- hours

    public int go(int n) {
        if (!isWithin(n, 0, MOST_HOURS)) {
            return BAD;
        }
        if (now.hour + n >= HOURS_END) {
            return FULL;
        }
        return now.passHours(n);
    }

    public int ahead(int n, int what) {
        if (!isWithin(n, 0, MOST_HOURS) || !isWithin(what, 0, 4)) {
            return BAD;
        }
        trial.copyFrom(now);
        int sailed = trial.passHours(n);
        // From 1 on, what is asked and how ONES stand bear the same numbers.
        return what == 0 ? sailed : trial.those(what);
    }

    public int when(int p) {
        if (!now.has(p)) {
            return BAD;
        }
        trial.copyFrom(now);
        for (int h = 0; h <= MOST_HOURS; h++) {
            if (trial.ones[p][STAND] == SAILED) {
                return h;
            }
            trial.passHour();
        }
        return NONE;
    }

    public int blocks(int p) {
        return now.has(p) ? now.rivalsOf(now.ones[p], p) & now.those(ABOARD) : BAD;
    }

    // ---- boats

    public int most(int n) {
        if (!isWithin(n, LEAST_SEATS, MOST_SEATS)) {
            return BAD;
        }
        unlike.gather(now, n, now.here(), 0);
        unlike.pack();
        return unlike.packed[now.here()];
    }

    public int sets(int what) {
        if (!isWithin(what, 0, 3)) {
            return BAD;
        }
        unlike.gather(now, now.places, now.here(), 0);
        return tellSets(what, now.here());
    }

    /** The four answers about the sets that were gathered; those in none are looked for in the pool. */
    private int tellSets(int what, int pool) {
        if (what == 0) {
            return unlike.many;
        }
        if (unlike.many == 0) {
            return NONE;
        }
        switch (what) {
            case 1: return unlike.found[0];
            case 2: return unlike.inAll();
            default: return pool & ~unlike.inAny();
        }
    }

    public int fill(int what) {
        if (!isWithin(what, 0, 1)) {
            return BAD;
        }
        unlike.gather(now, now.places, now.here(), now.those(ABOARD));
        return tellSets(what, now.here());
    }

    public int let(int what) {
        if (!isWithin(what, 0, 1)) {
            return BAD;
        }
        int here = now.here();
        int aboard = now.those(ABOARD);
        unlike.gather(now, now.places, here, 0);
        unlike.pack();
        int boats = 0;
        int letIn = 0;
        for (int i = 0; i < unlike.many; i++) {
            int set = unlike.found[i];
            // A full set has more ONES than are aboard, so a FILLING always has one who WAITS.
            if ((aboard & ~set) == 0) {
                int filled = 1 + unlike.packed[here & ~set];
                if (filled > boats) {
                    boats = filled;
                    letIn = 0;
                }
                if (filled == boats) {
                    letIn |= set & ~aboard;
                }
            }
        }
        if (boats == 0) {
            return NONE;
        }
        return what == 0 ? Integer.numberOfTrailingZeros(letIn) : boats;
    }

    public int cheap(int what) {
        if (!isWithin(what, 0, 1)) {
            return BAD;
        }
        int ashore = ~now.here();
        int least = NONE;
        int leastSet = NONE;
        for (int set = 0; set < now.pools(); set++) {
            if ((set & ashore) == 0 && Integer.bitCount(set) == now.places) {
                int cost = now.costToPart(set);
                if (cost != NONE && (least == NONE || cost < least)) {
                    least = cost;
                    leastSet = set;
                }
            }
        }
        return what == 0 ? least : leastSet;
    }

    public int send(int town, int what) {
        if (!isWithin(town, 0, MOST_VALUE) || !isWithin(what, 0, 1)) {
            return BAD;
        }
        unlike.gather(now, now.places - 1, now.here(), now.those(ABOARD));
        guest[KIND] = PLAIN;
        guest[TOWN] = town;
        int pairs = 0;
        int least = NONE;
        for (int trade = 0; trade <= MOST_VALUE; trade++) {
            for (int tale = 0; tale <= MOST_VALUE; tale++) {
                guest[TRADE] = trade;
                guest[TALE] = tale;
                if (unlike.hasOneWithin(~now.rivalsOf(guest, NONE))) {
                    pairs++;
                    least = least == NONE ? 10 * trade + tale : least;
                }
            }
        }
        return what == 0 ? pairs : least;
    }

    public int last(int set) {
        if (!isWithin(set, 0, now.pools() - 1)) {
            return BAD;
        }
        int here = now.here();
        if (Integer.bitCount(set) != now.places - 1 || (set & ~here) != 0) {
            return STATE;
        }
        unlike.gather(now, now.places, here, set);
        return unlike.inAny() & ~set;
    }

    // ---- odds

    public long odds(int v, int what) {
        if (!isWithin(v, 0, ODDS_OF) || !isWithin(what, 0, 1)) {
            return BAD;
        }
        int waits = now.those(WAITS);
        int aboard = now.those(ABOARD);
        unlike.gather(now, now.places, waits | aboard, aboard);
        long sum = 0;
        for (int left = 0; left <= waits; left++) {
            if ((left & ~waits) == 0 && unlike.hasOneWithin(left | aboard)) {
                sum += weight(v, waits, left);
            }
        }
        return inLowestTerms(sum, power(ODDS_OF, Integer.bitCount(waits)), what);
    }

    public long mean(int v, int what) {
        if (!isWithin(v, 0, ODDS_OF) || !isWithin(what, 0, 1)) {
            return BAD;
        }
        int waits = now.those(WAITS);
        int aboard = now.those(ABOARD);
        unlike.gather(now, now.places, waits | aboard, 0);
        unlike.pack();
        long sum = 0;
        for (int left = 0; left <= waits; left++) {
            if ((left & ~waits) == 0) {
                sum += unlike.packed[left | aboard] * weight(v, waits, left);
            }
        }
        return inLowestTerms(sum, power(ODDS_OF, Integer.bitCount(waits)), what);
    }

    /** How likely just these are left of those who wait, over a power of ten that all share. */
    private static long weight(int v, int waits, int left) {
        return power(v, Integer.bitCount(waits & ~left)) * power(ODDS_OF - v, Integer.bitCount(left));
    }

    private static long power(int base, int times) {
        long product = 1;
        for (int i = 0; i < times; i++) {
            product *= base;
        }
        return product;
    }

    private static long inLowestTerms(long part, long whole, int what) {
        long divisor = commonDivisor(part, whole);
        if (divisor == 0) {
            return BAD;
        }
        return (what == 0 ? part : whole) / divisor;
    }

    private static long commonDivisor(long a, long b) {
        long big = a;
        long small = b;
        // Euclid's steps over longs are fewer than a hundred.
        for (int i = 0; i < 100 && small != 0; i++) {
            long rest = big % small;
            big = small;
            small = rest;
        }
        return big;
    }

    // ---- who was aboard

    public int see(int p, boolean is) {
        if (!now.has(p)) {
            return BAD;
        }
        return seen.note(p, is) ? seen.many : FULL;
    }

    public int forget(int n) {
        if (!isWithin(n, 0, seen.many)) {
            return BAD;
        }
        int were = seen.many;
        seen.many = n;
        return were;
    }

    public int fits(int what) {
        if (!isWithin(what, 0, 3)) {
            return BAD;
        }
        int all = now.pools() - 1;
        unlike.gather(now, now.places, all & ~seen.those(false), seen.those(true));
        return tellSets(what, all);
    }

    // ---- by a seed

    public int drift(int seed, int n, int what) {
        if (!isWithin(n, 1, MOST_DRIFTS) || !isWithin(what, 0, 1)) {
            return BAD;
        }
        if (now.many == 0) {
            return STATE;
        }
        trial.copyFrom(now);
        int next = seed;
        for (int i = 0; i < n; i++) {
            next = next * 1103515245 + 12345;
            // One who can't board is refused there, and nothing changes.
            trial.takeAboard((next >>> 16 & 0x7fff) % now.many);
        }
        return what == 0 ? trial.boats - now.boats : trial.those(ABOARD);
    }

    // ---- images, sheets

    public int keep(int k) {
        if (!isWithin(k, 0, IMAGES - 1)) {
            return BAD;
        }
        int was = imageStands[k] ? 1 : 0;
        images[k].copyFrom(now);
        imageStands[k] = true;
        return was;
    }

    public int back(int k) {
        if (!isWithin(k, 0, IMAGES - 1)) {
            return BAD;
        }
        if (!imageStands[k]) {
            return STATE;
        }
        now.copyFrom(images[k]);
        return now.hour;
    }

    public int sheet(int k, int lane, int n) {
        if (!isSheet(k) || !isLane(lane) || n > MOST_CELLS) {
            return BAD;
        }
        if (n < 0) {
            return FAULT_BASE - SIZE_FAULT;
        }
        sheets[k].renew(lane, n);
        return 1;
    }

    public int lay(int k, int i, int v) {
        if (!isSheet(k)) {
            return BAD;
        }
        int found = sheets[k].faultAt(i);
        if (found != NO_FAULT) {
            return FAULT_BASE - found;
        }
        sheets[k].put(i, v);
        return 1;
    }

    public int read(int k, int lane, int f, int n) {
        if (!isSheet(k) || !isLane(lane) || !isWithin(n, 0, MOST_READ)) {
            return BAD;
        }
        Sheet from = sheets[k];
        trial.copyFrom(now);
        int found = NO_FAULT;
        int came = 0;
        for (int i = 0; i < n && found == NO_FAULT; i++) {
            found = from.faultAs(lane, f + i);
            if (found == NO_FAULT) {
                if (trial.takeAboard(from.cells[f + i]) < 0) {
                    return REFUSED_BASE - i;
                }
                came++;
            }
        }
        now.copyFrom(trial);
        readFault = found;
        return came;
    }

    public int torn() {
        return readFault;
    }

    public int count(int what) {
        switch (what) {
            case 0: return seen.many;
            case 1: return (imageStands[0] ? 1 : 0) + (imageStands[1] ? 1 : 0);
            case 2: return tape.length;
            case 3: return sheets[0].isRow ? sheets[0].size : NONE;
            case 4: return now.howMany(WAITS);
            case 5: return now.howMany(ABOARD);
            case 6: return alikePairs();
            default: return BAD;
        }
    }

    private int alikePairs() {
        unlike.gather(now, 2, now.here(), 0);
        int here = now.howMany(WAITS) + now.howMany(ABOARD);
        return here * (here - 1) / 2 - unlike.many;
    }

    private static boolean isSheet(int k) {
        return isWithin(k, 0, SHEETS - 1);
    }

    private static boolean isLane(int lane) {
        return isWithin(lane, BYTES, INTS);
    }

    private static boolean isWithin(int v, int least, int most) {
        return v >= least && v <= most;
    }

    private static boolean isIn(int p, int set) {
        return (set >>> p & 1) != 0;
    }

    /** Travellers with the rules of their ferry: all that an image holds. */
    private static final class Crew {
        final int[][] ones = new int[MOST_ONES][ROW];
        int many = 0;
        int places = FIRST_SEATS;
        int tradeCost = FIRST_COST;
        int taleCost = FIRST_COST;
        int hour = 0;
        int boats = 0;

        void clear() {
            many = 0;
            places = FIRST_SEATS;
            tradeCost = FIRST_COST;
            taleCost = FIRST_COST;
            hour = 0;
            boats = 0;
        }

        void copyFrom(Crew other) {
            many = other.many;
            places = other.places;
            tradeCost = other.tradeCost;
            taleCost = other.taleCost;
            hour = other.hour;
            boats = other.boats;
            for (int p = 0; p < many; p++) {
                System.arraycopy(other.ones[p], 0, ones[p], 0, ROW);
            }
        }

        boolean has(int p) {
            return p >= 0 && p < many;
        }

        /** One more than the set of all. */
        int pools() {
            return 1 << many;
        }

        int those(int stand) {
            int set = 0;
            for (int p = 0; p < many; p++) {
                set |= ones[p][STAND] == stand ? 1 << p : 0;
            }
            return set;
        }

        int howMany(int stand) {
            return Integer.bitCount(those(stand));
        }

        int here() {
            return those(WAITS) | those(ABOARD);
        }

        /** Whoever is alike with a row, but for the traveller whose row it is (none, if it is a guest's). */
        int rivalsOf(int[] row, int self) {
            int set = 0;
            for (int q = 0; q < many; q++) {
                set |= q != self && areAlike(row, ones[q]) ? 1 << q : 0;
            }
            return set;
        }

        private static boolean areAlike(int[] a, int[] b) {
            for (int what = TRADE; what <= TALE; what++) {
                if (a[what] == b[what] && counts(a[KIND], what) && counts(b[KIND], what)) {
                    return true;
                }
            }
            return false;
        }

        private static boolean counts(int kind, int what) {
            switch (kind) {
                case LIAR: return what != TALE;
                case ADMIRAL: return false;
                case NAMELESS: return what != TOWN;
                case JACK: return what != TRADE;
                default: return true;
            }
        }

        int changeAshore(int p, int what, int v) {
            if (ones[p][STAND] == ABOARD) {
                return STATE;
            }
            int was = ones[p][what];
            ones[p][what] = v;
            return was;
        }

        int takeAboard(int p) {
            if (!has(p)) {
                return BAD;
            }
            if (ones[p][STAND] != WAITS) {
                return STATE;
            }
            int aboard = those(ABOARD);
            if ((rivalsOf(ones[p], p) & aboard) != 0) {
                return NONE;
            }
            ones[p][STAND] = ABOARD;
            int are = Integer.bitCount(aboard) + 1;
            if (are < places) {
                return are;
            }
            moveAll(ABOARD, SAILED);
            boats++;
            return 0;
        }

        private void moveAll(int from, int to) {
            for (int p = 0; p < many; p++) {
                if (ones[p][STAND] == from) {
                    ones[p][STAND] = to;
                }
            }
        }

        int passHours(int n) {
            int before = boats;
            for (int h = 0; h < n; h++) {
                passHour();
            }
            return boats - before;
        }

        void passHour() {
            for (int p = 0; p < many; p++) {
                if (ones[p][STAND] == TO_COME && ones[p][COMES] == hour) {
                    ones[p][STAND] = WAITS;
                }
            }
            for (int p = 0; p < many; p++) {
                takeAboard(p);
            }
            for (int p = 0; p < many; p++) {
                if (ones[p][STAND] == WAITS) {
                    losePatience(ones[p]);
                }
            }
            hour++;
        }

        private static void losePatience(int[] row) {
            if (row[PATIENCE] > 0) {
                row[PATIENCE]--;
            } else {
                row[STAND] = GAVE_UP;
            }
        }

        /**
         * What it costs to make a set unlike; NONE, if two share a town. A trade or tale that a set has already must
         * be changed once where it comes again: there are six of them for five seats, so one is always free.
         */
        int costToPart(int set) {
            int towns = 0;
            int trades = 0;
            int tales = 0;
            int cost = 0;
            for (int p = 0; p < many; p++) {
                if (isIn(p, set)) {
                    int[] row = ones[p];
                    int town = bitOf(row, TOWN);
                    if ((towns & town) != 0) {
                        return NONE;
                    }
                    towns |= town;
                    int trade = bitOf(row, TRADE);
                    cost += (trades & trade) != 0 ? tradeCost : 0;
                    trades |= trade;
                    int tale = bitOf(row, TALE);
                    cost += (tales & tale) != 0 ? taleCost : 0;
                    tales |= tale;
                }
            }
            return cost;
        }

        private static int bitOf(int[] row, int what) {
            return counts(row[KIND], what) ? 1 << row[what] : 0;
        }
    }

    /** Unlike sets of one size, least by bits first, and how many of them any pool holds side by side. */
    private static final class Sets {
        final int[] rivals = new int[MOST_ONES];
        final int[] found = new int[MOST_SETS];
        final int[] packed = new int[ALL_POOLS];
        int many = 0;
        private int pools = 1;

        /** All unlike sets of a size within a pool that have all of must in them. */
        void gather(Crew crew, int size, int pool, int must) {
            for (int p = 0; p < crew.many; p++) {
                rivals[p] = crew.rivalsOf(crew.ones[p], p);
            }
            pools = crew.pools();
            many = 0;
            for (int set = 0; set < pools; set++) {
                boolean lies = (set & ~pool) == 0 && (must & ~set) == 0;
                if (lies && Integer.bitCount(set) == size && isUnlike(set) && many < MOST_SETS) {
                    found[many] = set;
                    many++;
                }
            }
        }

        private boolean isUnlike(int set) {
            for (int p = 0; p < MOST_ONES; p++) {
                if (isIn(p, set) && (rivals[p] & set) != 0) {
                    return false;
                }
            }
            return true;
        }

        /**
         * For every pool the most of the found sets in it, no one in two. The last of a pool is in none of them, or
         * in one whose last he is too: these stand one behind another in found.
         */
        void pack() {
            packed[0] = 0;
            int from = 0;
            for (int pool = 1; pool < pools; pool++) {
                int top = Integer.highestOneBit(pool);
                while (from < many && found[from] < top) {
                    from++;
                }
                int best = packed[pool & ~top];
                for (int i = from; i < many && found[i] <= pool; i++) {
                    if ((found[i] & ~pool) == 0) {
                        best = Math.max(best, 1 + packed[pool & ~found[i]]);
                    }
                }
                packed[pool] = best;
            }
        }

        boolean hasOneWithin(int pool) {
            for (int i = 0; i < many; i++) {
                if ((found[i] & ~pool) == 0) {
                    return true;
                }
            }
            return false;
        }

        int inAll() {
            int common = ALL_POOLS - 1;
            for (int i = 0; i < many; i++) {
                common &= found[i];
            }
            return common;
        }

        int inAny() {
            int any = 0;
            for (int i = 0; i < many; i++) {
                any |= found[i];
            }
            return any;
        }
    }

    /** Who was seen in a boat, or not in it, in the order in which it was told. */
    private static final class Seen {
        private final int[] who = new int[MOST_SEEN];
        private final boolean[] was = new boolean[MOST_SEEN];
        int many = 0;

        boolean note(int p, boolean is) {
            if (many >= MOST_SEEN) {
                return false;
            }
            who[many] = p;
            was[many] = is;
            many++;
            return true;
        }

        int those(boolean is) {
            int set = 0;
            for (int i = 0; i < many; i++) {
                set |= was[i] == is ? 1 << who[i] : 0;
            }
            return set;
        }
    }

    /** A row of cells of a lane, or nothing. The cells are made once: a new row takes them over. */
    private static final class Sheet {
        final int[] cells = new int[MOST_CELLS];
        boolean isRow = false;
        int lane = BYTES;
        int size = 0;

        void renew(int newLane, int newSize) {
            for (int i = 0; i < MOST_CELLS; i++) {
                cells[i] = 0;
            }
            isRow = true;
            lane = newLane;
            size = newSize;
        }

        int faultAt(int i) {
            if (!isRow) {
                return NULL_FAULT;
            }
            return i >= 0 && i < size ? NO_FAULT : INDEX_FAULT;
        }

        /** The machine casts the row before it reads a cell of it, and lets nothing be cast to any lane. */
        int faultAs(int asLane, int i) {
            return isRow && lane != asLane ? CAST_FAULT : faultAt(i);
        }

        void put(int i, int v) {
            switch (lane) {
                case BYTES: cells[i] = (byte) v; break;
                case SHORTS: cells[i] = (short) v; break;
                default: cells[i] = v; break;
            }
        }
    }

    private static final class Tape {
        private final byte[] bytes = new byte[TAPE_BYTES];
        int length = 0;

        boolean append(int c) {
            if (length >= TAPE_BYTES) {
                return false;
            }
            bytes[length] = (byte) c;
            length++;
            return true;
        }

        /** The byte at a place; behind the last one a sign that no token has. */
        int signAt(int i) {
            return i >= 0 && i < length ? bytes[i] : -1;
        }

        boolean isLetterAt(int i) {
            return i >= 0 && i < length && bytes[i] >= 'a' && bytes[i] <= 'z';
        }

        boolean isFigureAt(int i) {
            return i >= 0 && i < length && bytes[i] >= '0' && bytes[i] <= '9';
        }

        boolean hasWord(String word, int from, int to) {
            if (to - from != word.length()) {
                return false;
            }
            for (int i = from; i < to; i++) {
                if (signAt(i) != word.charAt(i - from)) {
                    return false;
                }
            }
            return true;
        }
    }

    /** Reads its tape into its crew, token by token, up to the first fault. */
    private static final class Reader {
        private static final int END = 0, NAME = 1, NUMBER = 2, STOP = 3;
        private static final int NO_TOKEN = 1, MISPLACED = 2, OUT_OF_BOUNDS = 3, AGAIN = 4, TOO_MANY = 5, NOBODY = 6;

        final Tape tape = new Tape();
        /** What a text tells, before it is known whether it will be taken. */
        final Crew crew = new Crew();
        int lines = 0;
        int fault = NO_FAULT;
        int place = 0;
        private int token = END;
        private int start = 0;
        private int stop = 0;
        private int waiting = 0;
        private boolean seatsTold = false;
        private boolean costTold = false;

        void tellAll() {
            restart();
            // Each line takes a byte at least, so there are no more lines than bytes.
            for (int i = 0; i <= TAPE_BYTES; i++) {
                if (!takeToken() || token == END || !takeLine()) {
                    break;
                }
                lines++;
            }
            if (fault == NO_FAULT) {
                letWait();
            }
        }

        private void restart() {
            crew.clear();
            lines = 0;
            fault = NO_FAULT;
            place = 0;
            stop = 0;
            waiting = 0;
            seatsTold = false;
            costTold = false;
        }

        private void letWait() {
            if (waiting >= crew.pools()) {
                fail(NOBODY, tape.length);
            }
            for (int p = 0; p < crew.many; p++) {
                crew.ones[p][STAND] = isIn(p, waiting) ? WAITS : TO_COME;
            }
        }

        /** Every step answers whether the reading goes on, so that the first fault stays the one told. */
        private boolean fail(int which, int where) {
            fault = which;
            place = where;
            return false;
        }

        private boolean takeToken() {
            start = stop;
            while (start < tape.length && tape.signAt(start) == ' ') {
                start++;
            }
            stop = start + 1;
            if (start >= tape.length) {
                stop = start;
                token = END;
            } else if (tape.signAt(start) == ';') {
                token = STOP;
            } else if (tape.isLetterAt(start)) {
                token = NAME;
                while (stop < tape.length && tape.isLetterAt(stop)) {
                    stop++;
                }
            } else if (tape.isFigureAt(start)) {
                token = NUMBER;
                stop += tape.isFigureAt(stop) ? 1 : 0;
                return !tape.isFigureAt(stop) || fail(NO_TOKEN, start);
            } else {
                return fail(NO_TOKEN, start);
            }
            return true;
        }

        private boolean takeLine() {
            if (token != NAME) {
                return fail(MISPLACED, start);
            }
            if (isWord("seats")) {
                return takeSeats();
            }
            if (isWord("cost")) {
                return takeCosts();
            }
            if (isWord("here")) {
                return takeHere();
            }
            return takeOne(kindNamed());
        }

        private boolean isWord(String word) {
            return tape.hasWord(word, start, stop);
        }

        private int kindNamed() {
            if (isWord("plain")) {
                return PLAIN;
            }
            if (isWord("liar")) {
                return LIAR;
            }
            if (isWord("admiral")) {
                return ADMIRAL;
            }
            if (isWord("nameless")) {
                return NAMELESS;
            }
            return isWord("jack") ? JACK : NONE;
        }

        private boolean takeSeats() {
            if (seatsTold) {
                return fail(AGAIN, start);
            }
            seatsTold = true;
            if (!takeNumber(LEAST_SEATS, MOST_SEATS)) {
                return false;
            }
            crew.places = number();
            return takeStop();
        }

        private boolean takeCosts() {
            if (costTold) {
                return fail(AGAIN, start);
            }
            costTold = true;
            if (!takeNumber(0, MOST_FIGURE)) {
                return false;
            }
            crew.tradeCost = number();
            if (!takeNumber(0, MOST_FIGURE)) {
                return false;
            }
            crew.taleCost = number();
            return takeStop();
        }

        private boolean takeHere() {
            if (!takeNumber(0, MOST_ONES - 1)) {
                return false;
            }
            int p = number();
            if (isIn(p, waiting)) {
                return fail(AGAIN, start);
            }
            waiting |= 1 << p;
            return takeStop();
        }

        private boolean takeOne(int kind) {
            if (kind == NONE) {
                return fail(MISPLACED, start);
            }
            if (crew.many >= MOST_ONES) {
                return fail(TOO_MANY, start);
            }
            int[] row = crew.ones[crew.many];
            crew.many++;
            row[KIND] = kind;
            for (int what = TRADE; what <= COMES; what++) {
                if (!takeNumber(0, what <= TALE ? MOST_VALUE : MOST_FIGURE)) {
                    return false;
                }
                row[what] = number();
            }
            return takeStop();
        }

        private boolean takeNumber(int least, int most) {
            if (!takeToken()) {
                return false;
            }
            if (token != NUMBER) {
                return fail(MISPLACED, start);
            }
            return isWithin(number(), least, most) || fail(OUT_OF_BOUNDS, start);
        }

        private boolean takeStop() {
            if (!takeToken()) {
                return false;
            }
            return token == STOP || fail(MISPLACED, start);
        }

        private int number() {
            int value = 0;
            for (int i = start; i < stop; i++) {
                value = 10 * value + tape.signAt(i) - '0';
            }
            return value;
        }
    }
}
