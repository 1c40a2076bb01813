/** Fractions as sums of one over unlike whole numbers; DOC.md tells what each call promises. */
public final class UnitShares {
    public static final int NONE = -1, UNKNOWN = -101, OUTSIDE = -102, STATE = -103, FULL = -104;

    private static final int ALLOWED = 0;
    private static final int LARGEST_PART = 1000;
    private static final int LARGEST_TRIPLE_BELOW = 40;
    private static final int LARGEST_BOUND = 120;
    private static final int LONGEST_ROW = 5;
    private static final int LARGEST_HELD = 1000;
    private static final int LAST_SORT = 5;
    private static final int MOST_ROW_SEARCHES = 60;
    private static final int MOST_TRIPLE_SEARCHES = 40;
    private static final long DIGEST_START = 157;

    private final boolean[] barred;
    private final RowSearch rows;
    private final GreedyRun run;
    private final Hand hand;
    private final BoundlessSearch boundless;
    private int rowsSought;
    private int triplesDone;

    public UnitShares() {
        barred = new boolean[LARGEST_BOUND + 1];
        rows = new RowSearch();
        run = new GreedyRun();
        hand = new Hand();
        boundless = new BoundlessSearch();
    }

    // ---- rows

    public int bar(int n, boolean is) {
        if (!isRowNumber(n)) {
            return OUTSIDE;
        }
        int was = asInt(barred[n]);
        barred[n] = is;
        return was;
    }

    public int isOf(int n, int sort) {
        if (!isRowNumber(n) || !isSort(sort)) {
            return OUTSIDE;
        }
        return asInt(!barred[n] && Sorts.fits(n, sort));
    }

    public int fewest(int a, int b, int sort, int n) {
        int refusal = rowRefusal(a, b, 1, sort, n);
        if (refusal != ALLOWED) {
            return refusal;
        }
        beginRows(a, b, sort, n);
        for (int k = 1; k <= LONGEST_ROW; k++) {
            if (rows.findRow(k, 0)) {
                return k;
            }
        }
        return NONE;
    }

    public int ways(int a, int b, int k, int sort, int n) {
        int refusal = rowRefusal(a, b, k, sort, n);
        if (refusal != ALLOWED) {
            return refusal;
        }
        beginRows(a, b, sort, n);
        return rows.countRows(k);
    }

    public int take(int a, int b, int k, int sort, int n, int i) {
        int refusal = rowRefusal(a, b, k, sort, n);
        if (refusal != ALLOWED) {
            return refusal;
        }
        beginRows(a, b, sort, n);
        if (!rows.findRow(k, i)) {
            return NONE;
        }
        holdFoundRow(k);
        return 1;
    }

    public int smallest(int a, int b, int k, int sort, int n) {
        int refusal = rowRefusal(a, b, k, sort, n);
        if (refusal != ALLOWED) {
            return refusal;
        }
        beginRows(a, b, sort, n);
        if (!rows.findSmallest(k)) {
            return NONE;
        }
        holdFoundRow(k);
        return hand.at(k - 1);
    }

    // ---- greedy

    public int greedy(int a, int b) {
        if (!isFraction(a, b)) {
            return OUTSIDE;
        }
        run.start(a, b);
        return run.size();
    }

    public int step(int i) {
        return run.at(i);
    }

    public long left(int i, int what) {
        if (i < 0 || i > run.size()) {
            return UNKNOWN;
        }
        if (what != 0 && what != 1) {
            return OUTSIDE;
        }
        return what == 0 ? run.aboveBehind(i) : run.belowBehind(i);
    }

    public int done() {
        return asInt(run.isDone());
    }

    // ---- the hand

    public int put(int n) {
        if (n < 2 || n > LARGEST_HELD) {
            return OUTSIDE;
        }
        if (hand.holds(n)) {
            return STATE;
        }
        if (hand.isFull()) {
            return FULL;
        }
        hand.insert(n);
        return hand.size();
    }

    public int drop(int n) {
        if (!hand.holds(n)) {
            return UNKNOWN;
        }
        hand.remove(n);
        return hand.size();
    }

    public int clear() {
        int before = hand.size();
        hand.empty();
        return before;
    }

    public int held(int i) {
        return hand.at(i);
    }

    public long sum(int what) {
        if (what != 0 && what != 1) {
            return OUTSIDE;
        }
        Fraction total = hand.total();
        return what == 0 ? total.above : total.below;
    }

    public int split(int n) {
        if (!hand.holds(n)) {
            return UNKNOWN;
        }
        int product = n * (n + 1);
        if (product > LARGEST_HELD) {
            return OUTSIDE;
        }
        if (hand.holds(n + 1) || hand.holds(product)) {
            return STATE;
        }
        if (hand.isFull()) {
            return FULL;
        }
        hand.remove(n);
        hand.insert(n + 1);
        hand.insert(product);
        return product;
    }

    public int join(int n, int m) {
        if (!hand.holds(n) || !hand.holds(m)) {
            return UNKNOWN;
        }
        int both = n + m;
        if (n == m || both <= 0 || n * m % both != 0) {
            return OUTSIDE;
        }
        int joined = n * m / both;
        if (joined < 2) {
            return OUTSIDE;
        }
        if (joined != n && joined != m && hand.holds(joined)) {
            return STATE;
        }
        hand.remove(n);
        hand.remove(m);
        hand.insert(joined);
        return joined;
    }

    public int against(int a, int b) {
        if (!isFraction(a, b)) {
            return OUTSIDE;
        }
        Fraction total = hand.total();
        return Long.compare(total.above * b, total.below * a);
    }

    // ---- without bounds

    public int pairs(int a, int b) {
        if (!isFraction(a, b)) {
            return OUTSIDE;
        }
        return boundless.countPairs(a, b);
    }

    public int pair(int a, int b, int i, int what) {
        if (!isFraction(a, b) || what < 0 || what > 1) {
            return OUTSIDE;
        }
        return boundless.partOfPair(a, b, i, what);
    }

    public int triples(int a, int b) {
        int refusal = tripleRefusal(a, b, 0);
        if (refusal != ALLOWED) {
            return refusal;
        }
        triplesDone++;
        return boundless.countTriples(a, b);
    }

    public int triple(int a, int b, int i, int what) {
        int refusal = tripleRefusal(a, b, what);
        if (refusal != ALLOWED) {
            return refusal;
        }
        triplesDone++;
        return boundless.partOfTriple(a, b, i, what);
    }

    // ---- what is told

    public int count(int what) {
        switch (what) {
            case 0:
                return hand.size();
            case 1:
                return barredNumbers();
            case 2:
                return rowsSought;
            case 3:
                return triplesDone;
            case 4:
                return run.size();
            default:
                return OUTSIDE;
        }
    }

    public long digest() {
        long h = DIGEST_START;
        for (int n = 2; n < barred.length; n++) {
            if (barred[n]) {
                h = mixed(h, n);
            }
        }
        for (int i = 0; i < hand.size(); i++) {
            h = mixed(h, hand.at(i));
        }
        for (int i = 0; i < run.size(); i++) {
            h = mixed(h, run.at(i));
        }
        h = mixed(h, asInt(run.isDone()));
        h = mixed(h, rowsSought);
        return mixed(h, triplesDone);
    }

    // ---- what the calls share

    private static int asInt(boolean is) {
        return is ? 1 : 0;
    }

    private static long mixed(long h, long number) {
        return 31 * h + number;
    }

    private static boolean isFraction(int a, int b) {
        return a >= 1 && a <= LARGEST_PART && b >= 1 && b <= LARGEST_PART;
    }

    private static boolean isRowNumber(int n) {
        return n >= 2 && n <= LARGEST_BOUND;
    }

    private static boolean isSort(int sort) {
        return sort >= 0 && sort <= LAST_SORT;
    }

    private int barredNumbers() {
        int total = 0;
        for (int n = 2; n < barred.length; n++) {
            total += asInt(barred[n]);
        }
        return total;
    }

    private int rowRefusal(int a, int b, int k, int sort, int bound) {
        if (!isFraction(a, b) || !isSort(sort) || !isRowNumber(bound)) {
            return OUTSIDE;
        }
        if (k < 1 || k > LONGEST_ROW) {
            return OUTSIDE;
        }
        return rowsSought >= MOST_ROW_SEARCHES ? FULL : ALLOWED;
    }

    private int tripleRefusal(int a, int b, int what) {
        if (!isFraction(a, b) || b > LARGEST_TRIPLE_BELOW || what < 0 || what > 2) {
            return OUTSIDE;
        }
        return triplesDone >= MOST_TRIPLE_SEARCHES ? FULL : ALLOWED;
    }

    private void beginRows(int a, int b, int sort, int bound) {
        rowsSought++;
        rows.prepare(a, b, sort, bound, barred);
    }

    private void holdFoundRow(int k) {
        hand.empty();
        for (int i = 0; i < k; i++) {
            hand.insert(rows.foundAt(i));
        }
    }

    /** The SORTS of NUMBERS, without regard to what is BARRED. */
    private static final class Sorts {
        static boolean fits(int n, int sort) {
            switch (sort) {
                case 0:
                    return true;
                case 1:
                    return n % 2 != 0;
                case 2:
                    return n % 2 == 0;
                case 3:
                    return without(without(n, 2), 3) == 1;
                case 4:
                    return !isPrime(n);
                case 5:
                    return isSquare(n);
                default:
                    return false;
            }
        }

        private static int without(int n, int prime) {
            int rest = n;
            for (int i = 0; i < LARGEST_BOUND && prime > 1 && rest % prime == 0; i++) {
                rest /= prime;
            }
            return rest;
        }

        private static boolean isPrime(int n) {
            for (int d = 2; d * d <= n; d++) {
                if (n % d == 0) {
                    return false;
                }
            }
            return n >= 2;
        }

        private static boolean isSquare(int n) {
            for (int d = 1; d * d <= n; d++) {
                if (d * d == n) {
                    return true;
                }
            }
            return false;
        }
    }

    /** A fraction from 0 on, always in lowest terms (0 by 1: nothing). */
    private static final class Fraction {
        // Euclid needs fewer steps than this for any two longs.
        private static final int MOST_EUCLID_STEPS = 100;

        long above;
        long below;

        Fraction() {
            above = 0;
            below = 1;
        }

        void become(long a, long b) {
            long common = commonDivisor(a, b);
            if (common <= 0) {
                return;
            }
            above = a / common;
            below = b / common;
        }

        /**
         * Adds sign times one over n, unless the lower part would then be above most: false, and
         * nothing changes. Common divisors go out before anything is multiplied, since the plain
         * product of both lower parts need not fit a long.
         */
        boolean addShare(int sign, long n, long most) {
            long common = commonDivisor(below, n);
            if (common <= 0) {
                return false;
            }
            long newAbove = above * (n / common) + sign * (below / common);
            long spare = commonDivisor(newAbove, common);
            if (spare <= 0) {
                return false;
            }
            long stays = below / common;
            long comes = n / spare;
            if (comes <= 0 || stays > most / comes) {
                return false;
            }
            above = newAbove / spare;
            below = stays * comes;
            return true;
        }

        /** The least whole number one over which is at most this; 0 for nothing. */
        long leastShare() {
            return above <= 0 ? 0 : (below + above - 1) / above;
        }

        private static long commonDivisor(long a, long b) {
            long x = a;
            long y = b;
            for (int i = 0; i < MOST_EUCLID_STEPS && y != 0; i++) {
                long rest = x % y;
                x = y;
                y = rest;
            }
            return x;
        }
    }

    /** Seeks the ROWS for one FRACTION, IN ORDER. */
    private static final class RowSearch {
        /**
         * A NUMBER up to 120 that one of these divides comes in a ROW only if that one divides the
         * FRACTION's lower part too. Each is a prime power p^e (of 29 and up the prime itself); no
         * NUMBER has more of p, and of the few multiples p^e * u up to 120 no choice has a sum of
         * one over u with p above. So p^e would stay below in the SUM.
         */
        private static final int[] LONELY = {
            64, 81, 49, 29, 31, 37, 41, 43, 47, 53, 59, 61, 67, 71, 73, 79, 83, 89, 97, 101, 103, 107,
            109, 113
        };

        private final boolean[] usable = new boolean[LARGEST_BOUND + 1];
        private final int[] numbers = new int[LARGEST_BOUND];
        private final int[] placeFrom = new int[LARGEST_BOUND + 1];
        private final int[] row = new int[LONGEST_ROW];
        private final int[] kept = new int[LONGEST_ROW];
        private final Fraction target = new Fraction();
        private int size;
        private int bound;
        private int length;
        private int greatest;
        private int wanted;
        private int found;
        private boolean shrinking;
        private boolean over;

        void prepare(int a, int b, int sort, int n, boolean[] barred) {
            target.become(a, b);
            bound = n;
            for (int m = 0; m < usable.length; m++) {
                usable[m] = m >= 2 && m <= n && m < barred.length && !barred[m] && Sorts.fits(m, sort);
            }
            leaveOutLonely();
            listUsable();
        }

        int countRows(int k) {
            seekAll(k, NONE, false);
            return found;
        }

        boolean findRow(int k, int i) {
            if (i < 0) {
                return false;
            }
            seekAll(k, i, false);
            return over;
        }

        boolean findSmallest(int k) {
            seekAll(k, NONE, true);
            return found > 0;
        }

        int foundAt(int i) {
            return i < 0 || i >= kept.length ? NONE : kept[i];
        }

        private void leaveOutLonely() {
            for (int i = 0; i < LONELY.length; i++) {
                int power = LONELY[i];
                if (power > 0 && target.below % power != 0) {
                    for (int m = power; m < usable.length; m += power) {
                        usable[m] = false;
                    }
                }
            }
        }

        private void listUsable() {
            size = 0;
            for (int m = 0; m < usable.length; m++) {
                placeFrom[m] = size;
                if (usable[m] && size < numbers.length) {
                    numbers[size] = m;
                    size++;
                }
            }
        }

        private void seekAll(int k, int i, boolean shrinks) {
            found = 0;
            over = false;
            if (k < 1 || k > row.length) {
                return;
            }
            length = k;
            wanted = i;
            shrinking = shrinks;
            greatest = bound;
            if (k == 1) {
                finish(1, target.above, target.below);
            } else {
                seek(k, 0, target.above, target.below);
            }
        }

        /**
         * Goes through the ROWS whose missing NUMBERS (two or more) stand from a place of the list
         * on. The parts stay far below a long's end: at most 1000 times 120 five times over.
         */
        private void seek(int missing, int from, long above, long below) {
            int last = size - missing;
            for (int i = Math.max(from, firstPlace(missing, above, below)); i <= last && !over; i++) {
                long n = numbers[i];
                // One over n and less than that for each of the others is not enough.
                if (above * n >= missing * below) {
                    return;
                }
                long restAbove = above * n - below;
                long restBelow = below * n;
                // Only one over a whole number can be left for the last: most end here.
                if (restAbove > 0 && (missing > 2 || restBelow % restAbove == 0)) {
                    choose(missing, i, restAbove, restBelow);
                }
            }
        }

        private void choose(int missing, int i, long restAbove, long restBelow) {
            int place = length - missing;
            if (place < 0 || place >= row.length) {
                return;
            }
            row[place] = numbers[i];
            if (missing > 2) {
                seek(missing - 1, i + 1, restAbove, restBelow);
            } else {
                finish(numbers[i], restAbove, restBelow);
            }
        }

        /** The first place whose NUMBER leaves enough for the others, none being above the greatest. */
        private int firstPlace(int missing, long above, long below) {
            long room = above * greatest - (missing - 1) * below;
            if (room <= 0) {
                return size;
            }
            long least = (below * greatest + room - 1) / room;
            return least < 0 || least >= placeFrom.length ? size : placeFrom[(int) least];
        }

        private void finish(int previous, long above, long below) {
            if (above <= 0 || below % above != 0) {
                return;
            }
            long last = below / above;
            if (last <= previous || last > greatest || last >= usable.length || !usable[(int) last]) {
                return;
            }
            note((int) last);
        }

        private void note(int last) {
            int place = length - 1;
            if (place < 0 || place >= row.length) {
                return;
            }
            row[place] = last;
            boolean hit = found == wanted;
            if (hit || shrinking) {
                System.arraycopy(row, 0, kept, 0, row.length);
            }
            if (shrinking) {
                // Of ROWS with a like greatest NUMBER the first IN ORDER stays.
                greatest = last - 1;
            }
            over = hit;
            found++;
        }
    }

    /** The latest GREEDY, with what was left behind each step. */
    private static final class GreedyRun {
        private static final int MOST_STEPS = 40;
        private static final long LARGEST_STEP = 1000000000L;
        private static final long LARGEST_BELOW = 1000000000000L;

        private final int[] steps = new int[MOST_STEPS];
        private final long[] above = new long[MOST_STEPS + 1];
        private final long[] below = new long[MOST_STEPS + 1];
        private final Fraction rest = new Fraction();
        private int size;

        GreedyRun() {
            below[0] = 1;
        }

        void start(int a, int b) {
            rest.become(a, b);
            size = 0;
            keepRest();
            // Each NUMBER that comes is above all before it, as less and less is left.
            long next = 2;
            while (size < MOST_STEPS && rest.above > 0) {
                next = Math.max(next, rest.leastShare());
                if (next > LARGEST_STEP || !rest.addShare(-1, next, LARGEST_BELOW)) {
                    return;
                }
                steps[size] = (int) next;
                size++;
                keepRest();
                next++;
            }
        }

        int size() {
            return size;
        }

        int at(int i) {
            return i < 0 || i >= size || i >= steps.length ? NONE : steps[i];
        }

        boolean isDone() {
            return size > 0 && rest.above == 0;
        }

        long aboveBehind(int i) {
            return i < 0 || i >= above.length ? 0 : above[i];
        }

        long belowBehind(int i) {
            return i < 0 || i >= below.length ? 1 : below[i];
        }

        private void keepRest() {
            if (size < above.length && size < below.length) {
                above[size] = rest.above;
                below[size] = rest.below;
            }
        }
    }

    /** THE HAND: a few unlike NUMBERS, the least first. */
    private static final class Hand {
        private final int[] numbers = new int[LONGEST_ROW];
        private final Fraction total = new Fraction();
        private int size;

        int size() {
            return size;
        }

        boolean isFull() {
            return size >= numbers.length;
        }

        boolean holds(int n) {
            return placeOf(n) != NONE;
        }

        int at(int i) {
            return i < 0 || i >= size || i >= numbers.length ? NONE : numbers[i];
        }

        void empty() {
            size = 0;
        }

        void insert(int n) {
            if (isFull()) {
                return;
            }
            int place = size;
            while (place > 0 && numbers[place - 1] > n) {
                numbers[place] = numbers[place - 1];
                place--;
            }
            numbers[place] = n;
            size++;
        }

        void remove(int n) {
            int place = placeOf(n);
            if (place == NONE) {
                return;
            }
            for (int i = place; i + 1 < size; i++) {
                numbers[i] = numbers[i + 1];
            }
            size--;
        }

        /** The SUM; the fraction is the hand's own and is made anew by the next call. */
        Fraction total() {
            total.become(0, 1);
            for (int i = 0; i < size; i++) {
                total.addShare(1, numbers[i], Long.MAX_VALUE);
            }
            return total;
        }

        private int placeOf(int n) {
            for (int i = 0; i < size; i++) {
                if (numbers[i] == n) {
                    return i;
                }
            }
            return NONE;
        }
    }

    /** Seeks PAIRS and TRIPLES of a FRACTION, IN ORDER. */
    private static final class BoundlessSearch {
        private static final int MOST_PARTS = 3;

        private final int[] parts = new int[MOST_PARTS];
        private final int[] kept = new int[MOST_PARTS];
        private int wanted;
        private int found;
        private boolean over;

        int countPairs(int a, int b) {
            begin(NONE);
            seekPairs(0, 1, a, b);
            return found;
        }

        int partOfPair(int a, int b, int i, int what) {
            begin(i);
            seekPairs(0, 1, a, b);
            return keptPart(what);
        }

        int countTriples(int a, int b) {
            begin(NONE);
            seekTriples(a, b);
            return found;
        }

        int partOfTriple(int a, int b, int i, int what) {
            begin(i);
            seekTriples(a, b);
            return keptPart(what);
        }

        private void begin(int i) {
            wanted = i;
            found = 0;
            over = false;
        }

        private int keptPart(int what) {
            return over && what >= 0 && what < kept.length ? kept[what] : NONE;
        }

        private void seekTriples(long above, long below) {
            if (above <= 0) {
                return;
            }
            // One over x is below the whole, and at least a third of it.
            long most = 3 * below / above;
            for (long x = below / above + 1; x <= most && !over; x++) {
                parts[0] = (int) x;
                seekPairs(1, x, above * x - below, below * x);
            }
        }

        /** Two parts, from a place on, the first of them being at least so much. */
        private void seekPairs(int place, long least, long above, long below) {
            if (above <= 0 || place < 0 || place + 1 >= parts.length) {
                return;
            }
            // One over x is below the whole, and at least half of it.
            long most = 2 * below / above;
            for (long x = Math.max(least, below / above + 1); x <= most && !over; x++) {
                long restAbove = above * x - below;
                long restBelow = below * x;
                if (restAbove > 0 && restBelow % restAbove == 0) {
                    parts[place] = (int) x;
                    parts[place + 1] = (int) (restBelow / restAbove);
                    note();
                }
            }
        }

        private void note() {
            if (found == wanted) {
                System.arraycopy(parts, 0, kept, 0, parts.length);
                over = true;
            }
            found++;
        }
    }
}
