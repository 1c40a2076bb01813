import java.math.BigInteger;
import java.util.ArrayList;
import java.util.Comparator;
import java.util.List;
import java.util.Random;
import java.util.TreeSet;

/** Long runs of calls beside a plain model written from the document alone: both must answer alike. */
public final class OracleTests {
    private static final int RUNS = 400;
    private static final int CALLS = 512;

    /** Fractions with many rows of five; the lower parts hold each prime power that few numbers up to 120 hold. */
    private static final int[][] WITH_FIVES = {
        {1, 1}, {1, 8}, {29, 20}, {35, 192}, {29, 162}, {26, 147}, {16, 87}, {11, 62}, {13, 74}, {22, 123},
        {23, 129}, {25, 141}, {28, 159}, {31, 177}, {67, 366}, {73, 402}, {77, 426}, {79, 438}, {85, 474}, {89, 498},
        {95, 534}, {103, 582}, {107, 606}, {109, 618}, {113, 642}, {115, 654}, {119, 678}, {121, 690}, {43, 300},
        {11, 54}, {17, 96}, {11, 57}, {3, 17}, {7, 39}, {25, 132},
    };

    private static int wrong = 0;
    private static long compared = 0;

    public static void main(String[] args) {
        for (int run = 0; run < RUNS && wrong < 20; run++) {
            new Run(run).go();
        }
        everyGreedy();
        everyPair();
        everyTriple();
        everyRow();
        rowsOfFive();
        everySplit();
        everyJoin();
        System.out.println(compared + " answers compared, " + wrong + " wrong");
        if (wrong != 0) {
            System.exit(1);
        }
    }

    private static void same(String call, long got, long want) {
        compared++;
        if (got != want) {
            wrong++;
            System.out.println(call + " answered " + got + ", the model " + want);
        }
    }

    private static void everyGreedy() {
        for (int b = 1; b <= 1000; b += b < 40 ? 1 : 13) {
            for (int a = 1; a <= 1000; a += a < 60 ? 1 : 17) {
                UnitShares u = new UnitShares();
                Model m = new Model();
                same("greedy(" + a + ", " + b + ")", u.greedy(a, b), m.greedy(a, b));
                same("digest() behind it", u.digest(), m.digest());
                for (int i = 0; i <= m.steps.size(); i++) {
                    same("left(" + i + ", 0)", u.left(i, 0), m.left(i, 0));
                    same("left(" + i + ", 1)", u.left(i, 1), m.left(i, 1));
                }
            }
        }
    }

    private static void everyPair() {
        for (int b = 1; b <= 1000; b += b < 60 ? 1 : 47) {
            for (int a = 1; a <= 1000; a += a < 60 ? 1 : 47) {
                UnitShares u = new UnitShares();
                List<int[]> due = Model.allPairs(a, b);
                same("pairs(" + a + ", " + b + ")", u.pairs(a, b), due.size());
                for (int i = 0; i < due.size(); i++) {
                    same("pair(" + a + ", " + b + ", " + i + ", 0)", u.pair(a, b, i, 0), due.get(i)[0]);
                    same("pair(" + a + ", " + b + ", " + i + ", 1)", u.pair(a, b, i, 1), due.get(i)[1]);
                }
            }
        }
    }

    private static void everyTriple() {
        for (int b = 1; b <= 40; b++) {
            for (int a = 1; a <= 130; a++) {
                UnitShares u = new UnitShares();
                List<int[]> due = Model.allTriples(a, b);
                same("triples(" + a + ", " + b + ")", u.triples(a, b), due.size());
                for (int j = 0; j < 12 && !due.isEmpty(); j++) {
                    int i = j * (due.size() - 1) / 11;
                    for (int what = 0; what < 3; what++) {
                        same("triple(" + a + ", " + b + ", " + i + ", " + what + ")", u.triple(a, b, i, what), due.get(i)[what]);
                    }
                }
            }
        }
    }

    /** All rows of 1 to 4 numbers up to 120, reckoned up by their sums. */
    private static void everyRow() {
        for (int k = 1; k <= 4; k++) {
            int[] ways = new int[1001 * 1001];
            int[] least = new int[1001 * 1001];
            reckonRows(k, 2, 0, 0, 1, ways, least);
            UnitShares u = new UnitShares();
            for (int sum = 0; sum < ways.length; sum++) {
                int a = sum / 1001, b = sum % 1001;
                boolean fraction = a > 0 && b > 0 && gcd(a, b) == 1;
                if (fraction && (ways[sum] > 0 || sum % 29 == 0)) {
                    // An object seeks rows 60 times.
                    u = u.count(2) > 58 ? new UnitShares() : u;
                    String with = "(" + a + ", " + b + ", " + k + ", 0, 120)";
                    same("ways" + with, u.ways(a, b, k, 0, 120), ways[sum]);
                    same("smallest" + with, u.smallest(a, b, k, 0, 120), ways[sum] == 0 ? -1 : least[sum]);
                }
            }
        }
    }

    private static void reckonRows(int missing, int from, int greatest, long above, long below, int[] ways, int[] least) {
        if (missing == 0) {
            long common = gcd(above, below);
            long a = above / common, b = below / common;
            if (a <= 1000 && b <= 1000) {
                int sum = (int) (a * 1001 + b);
                least[sum] = ways[sum] == 0 ? greatest : Math.min(least[sum], greatest);
                ways[sum]++;
            }
            return;
        }
        for (int n = from; n <= 120; n++) {
            reckonRows(missing - 1, n + 1, n, above * n + below, below * n, ways, least);
        }
    }

    /** All rows of five numbers up to 120 for some fractions, then those of each sort, up to lower bounds, with some barred. */
    private static void rowsOfFive() {
        Random random = new Random(5);
        for (int[] fraction : WITH_FIVES) {
            List<List<Integer>> all = allFives(fraction[0], fraction[1]);
            for (int sort = 0; sort <= 5; sort++) {
                compareFives(fraction, all, sort, 120, List.of());
                List<Integer> row = all.get(random.nextInt(all.size()));
                // The greatest of a row as the bound, and one below it.
                compareFives(fraction, all, sort, row.get(4), List.of(2 + random.nextInt(119)));
                compareFives(fraction, all, sort, row.get(4) - 1, List.of());
                compareFives(fraction, all, sort, 120, List.of(row.get(random.nextInt(5)), 2 + random.nextInt(119)));
            }
        }
    }

    private static void compareFives(int[] fraction, List<List<Integer>> all, int sort, int bound, List<Integer> barred) {
        int a = fraction[0], b = fraction[1];
        UnitShares u = new UnitShares();
        Model m = new Model();
        for (int n : barred) {
            u.bar(n, true);
            m.bar(n, true);
        }
        List<List<Integer>> due = new ArrayList<>(all);
        due.removeIf(row -> row.get(4) > bound || !row.stream().allMatch(n -> m.of(n, sort)));
        String with = "(" + a + ", " + b + ", 5, " + sort + ", " + bound + ") without " + barred;
        same("ways" + with, u.ways(a, b, 5, sort, bound), due.size());
        for (int j = 0; j < 12 && !due.isEmpty(); j++) {
            int i = j * (due.size() - 1) / 11;
            same("take " + i + with, u.take(a, b, 5, sort, bound, i), 1);
            sameHand("take " + i + with, u, due.get(i));
        }
        same("take past the end" + with, u.take(a, b, 5, sort, bound, due.size()), -1);
        due.sort(Comparator.comparing(row -> row.get(4)));
        same("smallest" + with, u.smallest(a, b, 5, sort, bound), due.isEmpty() ? -1 : due.get(0).get(4));
        if (!due.isEmpty()) {
            sameHand("smallest" + with, u, due.get(0));
        }
    }

    private static void sameHand(String call, UnitShares u, List<Integer> numbers) {
        same("count(0) behind " + call, u.count(0), numbers.size());
        for (int i = 0; i < numbers.size(); i++) {
            same("held(" + i + ") behind " + call, u.held(i), numbers.get(i));
        }
    }

    /** In order: four numbers in every way that is not too much, and the fifth that follows from them. */
    private static List<List<Integer>> allFives(long a, long b) {
        List<List<Integer>> rows = new ArrayList<>();
        for (int n = 2; n <= 120; n++) {
            long a1 = a * n - b, b1 = b * n;
            for (int m = n + 1; m <= 120 && a1 > 0; m++) {
                long a2 = a1 * m - b1, b2 = b1 * m;
                for (int k = m + 1; k <= 120 && a2 > 0; k++) {
                    long a3 = a2 * k - b2, b3 = b2 * k;
                    for (int j = k + 1; j <= 120 && a3 > 0; j++) {
                        long a4 = a3 * j - b3, b4 = b3 * j;
                        if (a4 > 0 && b4 % a4 == 0 && b4 / a4 > j && b4 / a4 <= 120) {
                            rows.add(List.of(n, m, k, j, (int) (b4 / a4)));
                        }
                    }
                }
            }
        }
        return rows;
    }

    private static long gcd(long a, long b) {
        return b == 0 ? a : gcd(b, a % b);
    }

    private static void everySplit() {
        for (int n = 2; n <= 1000; n++) {
            UnitShares u = new UnitShares();
            u.put(n);
            same("split(" + n + ")", u.split(n), n <= 31 ? n * (n + 1) : -102);
            same("sum(0) behind it", u.sum(0), 1);
            same("sum(1) behind it", u.sum(1), n);
        }
    }

    /** Every two numbers that may be held, in both orders. */
    private static void everyJoin() {
        for (int n = 2; n <= 1000; n++) {
            for (int m = 2; m <= 1000; m++) {
                UnitShares u = new UnitShares();
                u.put(n);
                u.put(m);
                boolean whole = n != m && n * m % (n + m) == 0;
                same("join(" + n + ", " + m + ")", u.join(n, m), whole ? n * m / (n + m) : -102);
                same("count(0) behind it", u.count(0), whole || n == m ? 1 : 2);
            }
        }
    }

    /** One object and one model, and a stream of calls that is the same each time for a seed. */
    private static final class Run {
        private final int seed;
        private final Random random;
        private final UnitShares u = new UnitShares();
        private final Model m = new Model();
        private int calls = 0;

        Run(int seed) {
            this.seed = seed;
            this.random = new Random(seed);
        }

        void go() {
            // What an object answers beyond its last call is free; a turn takes at most three.
            while (calls + 3 <= CALLS) {
                call();
                told("digest", u.digest(), m.digest());
            }
        }

        private void call() {
            switch (kind()) {
                case 0: { int n = near(2, 120); boolean is = random.nextInt(3) > 0; told("bar", u.bar(n, is), m.bar(n, is), n); break; }
                case 1: { int n = near(2, 120), s = near(0, 5); told("isOf", u.isOf(n, s), m.isOf(n, s), n, s); break; }
                case 2: case 3: case 4: case 5: rows(); break;
                case 6: { int a = part(), b = part(); told("greedy", u.greedy(a, b), m.greedy(a, b), a, b); break; }
                case 7: { int i = near(0, 5); told("step", u.step(i), m.step(i), i); break; }
                case 8: { int i = near(0, 4), w = near(0, 1); told("left", u.left(i, w), m.left(i, w), i, w); break; }
                case 9: told("done", u.done(), m.done()); break;
                case 10: case 11: { int n = number(); told("put", u.put(n), m.put(n), n); break; }
                case 12: { int n = number(); told("drop", u.drop(n), m.drop(n), n); break; }
                case 13: if (random.nextInt(4) == 0) { told("clear", u.clear(), m.clear()); } break;
                case 14: { int i = near(0, 4); told("held", u.held(i), m.held(i), i); break; }
                case 15: { int w = near(0, 1); told("sum", u.sum(w), m.sum(w), w); break; }
                case 16: case 17: { int n = number(); told("split", u.split(n), m.split(n), n); break; }
                case 18: case 19: { int n = number(), k = number(); told("join", u.join(n, k), m.join(n, k), n, k); break; }
                case 20: { int a = part(), b = part(); told("against", u.against(a, b), m.against(a, b), a, b); break; }
                case 21: { int a = part(), b = part(), i = near(0, 3), w = near(0, 1); told("pairs", u.pairs(a, b), m.pairs(a, b), a, b); told("pair", u.pair(a, b, i, w), m.pair(a, b, i, w), a, b, i, w); break; }
                case 22: { int a = near(1, 12), b = near(1, 40), i = near(0, 9), w = near(0, 2); told("triples", u.triples(a, b), m.triples(a, b), a, b); told("triple", u.triple(a, b, i, w), m.triple(a, b, i, w), a, b, i, w); break; }
                default: { int w = near(0, 4); told("count", u.count(w), m.count(w), w); break; }
            }
        }

        /** Every fourth run seeks so often that it meets the limits. */
        private int kind() {
            boolean pressing = seed % 4 == 0 && random.nextInt(3) == 0;
            return pressing ? (random.nextInt(4) == 0 ? 22 : 2) : random.nextInt(24);
        }

        private void rows() {
            int b = random.nextInt(20) == 0 ? part() : 1 + random.nextInt(24);
            int a = random.nextInt(20) == 0 ? part() : near(1, b < 1 || b > 1000 ? 30 : b + b / 4);
            int k = near(1, 5), s = near(0, 5), i = near(0, 3);
            int n = k <= 3 ? near(2, 120) : k == 4 ? near(2, 60) : near(2, 34);
            switch (random.nextInt(4)) {
                case 0: { int low = near(2, 34); told("fewest", u.fewest(a, b, s, low), m.fewest(a, b, s, low), a, b, s, low); break; }
                case 1: told("ways", u.ways(a, b, k, s, n), m.ways(a, b, k, s, n), a, b, k, s, n); break;
                case 2: told("take", u.take(a, b, k, s, n, i), m.take(a, b, k, s, n, i), a, b, k, s, n, i); break;
                default: told("smallest", u.smallest(a, b, k, s, n), m.smallest(a, b, k, s, n), a, b, k, s, n); break;
            }
        }

        private void told(String call, long got, long want, int... with) {
            calls++;
            same("run " + seed + ": " + call + java.util.Arrays.toString(with), got, want);
        }

        /** Mostly from low to high, now and then just outside or far off. */
        private int near(int low, int high) {
            int odd = random.nextInt(60);
            if (odd == 0) { return low - 1; }
            if (odd == 1) { return high + 1; }
            if (odd == 2) { return random.nextInt(); }
            return low + random.nextInt(high - low + 1);
        }

        private int part() {
            return random.nextInt(3) == 0 ? near(1, 1000) : near(1, 30);
        }

        /** Often one that is in the hand, or close to one. */
        private int number() {
            if (random.nextInt(2) == 0 && !m.hand.isEmpty()) {
                return new ArrayList<>(m.hand).get(random.nextInt(m.hand.size()));
            }
            return random.nextInt(4) == 0 ? near(2, 1000) : near(2, 30);
        }
    }

    /** The document in the plainest form. */
    private static final class Model {
        private static final int NONE = -1, UNKNOWN = -101, OUTSIDE = -102, STATE = -103, FULL = -104;

        final TreeSet<Integer> barred = new TreeSet<>();
        final TreeSet<Integer> hand = new TreeSet<>();
        final List<Long> steps = new ArrayList<>();
        final List<Ratio> rests = new ArrayList<>(List.of(new Ratio(0, 1)));
        boolean ran = false;
        int sought = 0;
        int tripled = 0;

        int bar(int n, boolean is) {
            if (n < 2 || n > 120) { return OUTSIDE; }
            return (is ? !barred.add(n) : barred.remove(n)) ? 1 : 0;
        }

        int isOf(int n, int sort) {
            if (n < 2 || n > 120 || sort < 0 || sort > 5) { return OUTSIDE; }
            return of(n, sort) ? 1 : 0;
        }

        boolean of(int n, int sort) {
            if (barred.contains(n)) { return false; }
            boolean prime = BigInteger.valueOf(n).isProbablePrime(30);
            int rest = n;
            while (rest % 2 == 0) { rest /= 2; }
            while (rest % 3 == 0) { rest /= 3; }
            boolean square = List.of(4, 9, 16, 25, 36, 49, 64, 81, 100).contains(n);
            return new boolean[] {true, n % 2 == 1, n % 2 == 0, rest == 1, !prime, square}[sort];
        }

        int refusal(int a, int b, int k, int sort, int n) {
            if (!fraction(a, b) || k < 1 || k > 5 || sort < 0 || sort > 5 || n < 2 || n > 120) { return OUTSIDE; }
            return sought >= 60 ? FULL : 0;
        }

        int fewest(int a, int b, int sort, int n) {
            int refusal = refusal(a, b, 1, sort, n);
            if (refusal != 0) { return refusal; }
            sought++;
            for (int k = 1; k <= 5; k++) {
                if (!all(a, b, k, sort, n).isEmpty()) { return k; }
            }
            return NONE;
        }

        int ways(int a, int b, int k, int sort, int n) {
            int refusal = refusal(a, b, k, sort, n);
            if (refusal != 0) { return refusal; }
            sought++;
            return all(a, b, k, sort, n).size();
        }

        int take(int a, int b, int k, int sort, int n, int i) {
            int refusal = refusal(a, b, k, sort, n);
            if (refusal != 0) { return refusal; }
            sought++;
            List<List<Integer>> rows = all(a, b, k, sort, n);
            if (i < 0 || i >= rows.size()) { return NONE; }
            hand.clear();
            hand.addAll(rows.get(i));
            return 1;
        }

        int smallest(int a, int b, int k, int sort, int n) {
            int refusal = refusal(a, b, k, sort, n);
            if (refusal != 0) { return refusal; }
            sought++;
            List<List<Integer>> rows = all(a, b, k, sort, n);
            if (rows.isEmpty()) { return NONE; }
            rows.sort(Comparator.comparing(row -> row.get(k - 1)));
            hand.clear();
            hand.addAll(rows.get(0));
            return hand.last();
        }

        List<List<Integer>> all(int a, int b, int k, int sort, int n) {
            List<List<Integer>> rows = new ArrayList<>();
            List<Integer> numbers = new ArrayList<>();
            for (int m = 2; m <= n; m++) {
                if (of(m, sort)) { numbers.add(m); }
            }
            collect(rows, new ArrayList<>(), numbers, 0, k, a, b);
            return rows;
        }

        /** All choices, but for those that are too much already. */
        private static void collect(List<List<Integer>> rows, List<Integer> row, List<Integer> numbers, int from, int k, long above, long below) {
            if (k == 0) {
                if (above == 0) { rows.add(new ArrayList<>(row)); }
                return;
            }
            for (int i = from; i < numbers.size(); i++) {
                int n = numbers.get(i);
                long rest = above * n - below;
                if (rest < 0) { continue; }
                row.add(n);
                collect(rows, row, numbers, i + 1, k - 1, rest, below * n);
                row.remove(row.size() - 1);
            }
        }

        int greedy(int a, int b) {
            if (!fraction(a, b)) { return OUTSIDE; }
            steps.clear();
            rests.clear();
            ran = true;
            Ratio rest = new Ratio(a, b);
            rests.add(rest);
            while (rest.above.signum() > 0 && steps.size() < 40) {
                BigInteger ceiling = rest.below.add(rest.above).subtract(BigInteger.ONE).divide(rest.above);
                BigInteger next = ceiling.max(BigInteger.TWO);
                while (steps.contains(next.longValueExact())) { next = next.add(BigInteger.ONE); }
                if (next.compareTo(BigInteger.valueOf(1000000000L)) > 0) { break; }
                Ratio then = rest.less(next);
                if (then.below.compareTo(BigInteger.valueOf(1000000000000L)) > 0) { break; }
                steps.add(next.longValueExact());
                rest = then;
                rests.add(rest);
            }
            return steps.size();
        }

        long step(int i) {
            return i < 0 || i >= steps.size() ? NONE : steps.get(i);
        }

        long left(int i, int what) {
            if (i < 0 || i > steps.size()) { return UNKNOWN; }
            if (what < 0 || what > 1) { return OUTSIDE; }
            return rests.get(i).part(what);
        }

        int done() {
            return ran && rests.get(rests.size() - 1).above.signum() == 0 ? 1 : 0;
        }

        int put(int n) {
            if (n < 2 || n > 1000) { return OUTSIDE; }
            if (hand.contains(n)) { return STATE; }
            if (hand.size() == 5) { return FULL; }
            hand.add(n);
            return hand.size();
        }

        int drop(int n) {
            return hand.remove(n) ? hand.size() : UNKNOWN;
        }

        int clear() {
            int size = hand.size();
            hand.clear();
            return size;
        }

        int held(int i) {
            return i < 0 || i >= hand.size() ? NONE : new ArrayList<>(hand).get(i);
        }

        Ratio total() {
            Ratio total = new Ratio(0, 1);
            for (int n : hand) { total = total.less(BigInteger.valueOf(-n)); }
            return total;
        }

        long sum(int what) {
            return what < 0 || what > 1 ? OUTSIDE : total().part(what);
        }

        int split(int n) {
            if (!hand.contains(n)) { return UNKNOWN; }
            if (n * (n + 1) > 1000) { return OUTSIDE; }
            if (hand.contains(n + 1) || hand.contains(n * (n + 1))) { return STATE; }
            if (hand.size() == 5) { return FULL; }
            hand.remove(n);
            hand.add(n + 1);
            hand.add(n * (n + 1));
            return n * (n + 1);
        }

        int join(int n, int m) {
            if (!hand.contains(n) || !hand.contains(m)) { return UNKNOWN; }
            Ratio both = new Ratio(n + m, n * m);
            if (n == m || both.part(0) != 1 || both.part(1) < 2) { return OUTSIDE; }
            int joined = (int) both.part(1);
            if (hand.contains(joined) && joined != n && joined != m) { return STATE; }
            hand.remove(n);
            hand.remove(m);
            hand.add(joined);
            return joined;
        }

        int against(int a, int b) {
            if (!fraction(a, b)) { return OUTSIDE; }
            Ratio total = total();
            return total.above.multiply(BigInteger.valueOf(b)).compareTo(total.below.multiply(BigInteger.valueOf(a)));
        }

        int pairs(int a, int b) {
            return fraction(a, b) ? allPairs(a, b).size() : OUTSIDE;
        }

        int pair(int a, int b, int i, int what) {
            if (!fraction(a, b) || what < 0 || what > 1) { return OUTSIDE; }
            List<int[]> pairs = allPairs(a, b);
            return i < 0 || i >= pairs.size() ? NONE : pairs.get(i)[what];
        }

        int triples(int a, int b) {
            if (!fraction(a, b) || b > 40) { return OUTSIDE; }
            if (tripled >= 40) { return FULL; }
            tripled++;
            return allTriples(a, b).size();
        }

        int triple(int a, int b, int i, int what) {
            if (!fraction(a, b) || b > 40 || what < 0 || what > 2) { return OUTSIDE; }
            if (tripled >= 40) { return FULL; }
            tripled++;
            List<int[]> triples = allTriples(a, b);
            return i < 0 || i >= triples.size() ? NONE : triples.get(i)[what];
        }

        /** By the divisors of the lower part's square: (ax - b)(ay - b) is it. */
        static List<int[]> allPairs(long a, long b) {
            List<int[]> pairs = new ArrayList<>();
            for (long d = 1; d <= b; d++) {
                long e = b * b / d;
                if (d * e == b * b && (d + b) % a == 0 && (e + b) % a == 0) {
                    pairs.add(new int[] {(int) ((d + b) / a), (int) ((e + b) / a)});
                }
            }
            return pairs;
        }

        static List<int[]> allTriples(long a, long b) {
            List<int[]> triples = new ArrayList<>();
            for (long x = 1; a * x <= 3 * b; x++) {
                if (a * x <= b) { continue; }
                for (int[] pair : allPairs(a * x - b, b * x)) {
                    if (pair[0] >= x) { triples.add(new int[] {(int) x, pair[0], pair[1]}); }
                }
            }
            return triples;
        }

        int count(int what) {
            return what < 0 || what > 4 ? OUTSIDE : new int[] {hand.size(), barred.size(), sought, tripled, steps.size()}[what];
        }

        long digest() {
            List<Long> numbers = new ArrayList<>();
            barred.forEach(n -> numbers.add((long) n));
            hand.forEach(n -> numbers.add((long) n));
            numbers.addAll(steps);
            numbers.addAll(List.of((long) done(), (long) sought, (long) tripled));
            long h = 157;
            for (long n : numbers) { h = 31 * h + n; }
            return h;
        }

        private static boolean fraction(int a, int b) {
            return a >= 1 && a <= 1000 && b >= 1 && b <= 1000;
        }
    }

    /** A fraction in lowest terms. */
    private static final class Ratio {
        final BigInteger above;
        final BigInteger below;

        Ratio(long above, long below) {
            this(BigInteger.valueOf(above), BigInteger.valueOf(below));
        }

        Ratio(BigInteger above, BigInteger below) {
            BigInteger common = above.gcd(below);
            if (below.signum() < 0) { common = common.negate(); }
            this.above = above.divide(common);
            this.below = below.divide(common);
        }

        Ratio less(BigInteger n) {
            return new Ratio(above.multiply(n).subtract(below), below.multiply(n));
        }

        long part(int what) {
            return (what == 0 ? above : below).longValueExact();
        }
    }
}
