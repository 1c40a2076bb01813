/** Every promise of DOC.md by number: ordinary inputs, the edges it names, and wrong inputs. */
public final class PromiseTests {
    private static final int UNKNOWN = -101, OUTSIDE = -102, STATE = -103, FULL = -104, NONE = -1;
    private static final int LOW = Integer.MIN_VALUE, HIGH = Integer.MAX_VALUE;

    private static int promise = 0;
    private static int checks = 0;
    private static int wrong = 0;

    public static void main(String[] args) {
        promise = 1; newObject();
        promise = 2; bar();
        promise = 3; isOf();
        promise = 4; fewest();
        promise = 5; ways();
        promise = 6; take();
        promise = 7; smallest();
        promise = 8; greedy();
        promise = 9; step();
        promise = 10; left();
        promise = 11; done();
        promise = 12; put();
        promise = 13; drop();
        promise = 14; clear();
        promise = 15; held();
        promise = 16; sum();
        promise = 17; split();
        promise = 18; join();
        promise = 19; against();
        promise = 20; pairs();
        promise = 21; pair();
        promise = 22; triples();
        promise = 23; triple();
        promise = 24; count();
        promise = 25; digest();
        System.out.println(checks + " checks, " + wrong + " wrong");
        if (wrong != 0) {
            System.exit(1);
        }
    }

    private static void due(String call, long got, long want) {
        checks++;
        if (got != want) {
            wrong++;
            System.out.println("promise " + promise + ": " + call + " answered " + got + ", due is " + want);
        }
    }

    /** The hand must hold exactly these. */
    private static void hand(UnitShares u, int... numbers) {
        due("count(0)", u.count(0), numbers.length);
        for (int i = 0; i < numbers.length; i++) {
            due("held(" + i + ")", u.held(i), numbers[i]);
        }
        due("held past the end", u.held(numbers.length), NONE);
    }

    private static UnitShares holding(int... numbers) {
        UnitShares u = new UnitShares();
        for (int n : numbers) {
            u.put(n);
        }
        return u;
    }

    private static long digestOf(long... numbers) {
        long h = 157;
        for (long n : numbers) {
            h = 31 * h + n;
        }
        return h;
    }

    private static void newObject() {
        UnitShares u = new UnitShares();
        for (int what = 0; what <= 4; what++) {
            due("count(" + what + ")", u.count(what), 0);
        }
        hand(u);
        due("step(0)", u.step(0), NONE);
        due("done()", u.done(), 0);
        due("left(0, 0)", u.left(0, 0), 0);
        due("left(0, 1)", u.left(0, 1), 1);
        due("left(1, 0)", u.left(1, 0), UNKNOWN);
        due("digest()", u.digest(), digestOf(0, 0, 0));
        for (int n = 2; n <= 120; n++) {
            due("isOf(" + n + ", 0)", u.isOf(n, 0), 1);
        }
        // What one object is told must not reach another.
        u.put(2);
        u.bar(3, true);
        u.greedy(1, 1);
        due("digest() of another", new UnitShares().digest(), digestOf(0, 0, 0));
    }

    private static void bar() {
        UnitShares u = new UnitShares();
        due("bar(2, true)", u.bar(2, true), 0);
        due("bar(2, true)", u.bar(2, true), 1);
        due("bar(120, true)", u.bar(120, true), 0);
        due("count(1)", u.count(1), 2);
        for (int n : new int[] {1, 0, -1, 121, LOW, HIGH}) {
            due("bar(" + n + ", true)", u.bar(n, true), OUTSIDE);
        }
        due("count(1)", u.count(1), 2);
        due("bar(2, false)", u.bar(2, false), 1);
        due("bar(2, false)", u.bar(2, false), 0);
        due("count(1)", u.count(1), 1);
        // What is barred is of no sort, but may be held and comes in greedy ones.
        due("put(120)", u.put(120), 1);
        u.bar(2, true);
        u.greedy(1, 1);
        due("step(0)", u.step(0), 2);
        due("ways(1, 2, 1, 0, 120)", u.ways(1, 2, 1, 0, 120), 0);
        u.bar(2, false);
        due("ways(1, 2, 1, 0, 120)", u.ways(1, 2, 1, 0, 120), 1);
    }

    private static void isOf() {
        UnitShares u = new UnitShares();
        String[] sorts = {
            " 2 3 4 5 6 7 8 9 10 11 12 13 14 15 16 17 18 19 20 25 49 64 97 113 119 120 ",
            " 3 5 7 9 11 13 15 17 19 25 49 97 113 119 ",
            " 2 4 6 8 10 12 14 16 18 20 64 120 ",
            " 2 3 4 6 8 9 12 16 18 64 ",
            " 4 6 8 9 10 12 14 15 16 18 20 25 49 64 119 120 ",
            " 4 9 16 25 49 64 ",
        };
        for (int sort = 0; sort <= 5; sort++) {
            u = new UnitShares();
            for (String text : sorts[0].trim().split(" ")) {
                int n = Integer.parseInt(text);
                due("isOf(" + n + ", " + sort + ")", u.isOf(n, sort), sorts[sort].contains(" " + n + " ") ? 1 : 0);
            }
        }
        int[] sizes = {119, 59, 60, 20, 89, 9};
        for (int sort = 0; sort <= 5; sort++) {
            u = new UnitShares();
            int total = 0;
            for (int n = 2; n <= 120; n++) {
                total += u.isOf(n, sort);
            }
            due("how many are of sort " + sort, total, sizes[sort]);
        }
        u.bar(9, true);
        for (int sort = 0; sort <= 5; sort++) {
            due("isOf(9, " + sort + ") barred", u.isOf(9, sort), 0);
        }
        u.bar(9, false);
        due("isOf(9, 5)", u.isOf(9, 5), 1);
        for (int n : new int[] {1, 0, -9, 121, LOW, HIGH}) {
            due("isOf(" + n + ", 0)", u.isOf(n, 0), OUTSIDE);
        }
        for (int sort : new int[] {-1, 6, LOW, HIGH}) {
            due("isOf(2, " + sort + ")", u.isOf(2, sort), OUTSIDE);
        }
    }

    private static void fewest() {
        UnitShares u = new UnitShares();
        due("fewest(1, 2, 0, 2)", u.fewest(1, 2, 0, 2), 1);
        due("fewest(500, 1000, 0, 2)", u.fewest(500, 1000, 0, 2), 1);
        due("fewest(1, 120, 0, 120)", u.fewest(1, 120, 0, 120), 1);
        due("fewest(1, 120, 0, 119)", u.fewest(1, 120, 0, 119), NONE);
        due("fewest(5, 6, 0, 120)", u.fewest(5, 6, 0, 120), 2);
        due("fewest(1, 1, 0, 6)", u.fewest(1, 1, 0, 6), 3);
        due("fewest(1, 1, 0, 5)", u.fewest(1, 1, 0, 5), NONE);
        due("fewest(4, 5, 0, 120)", u.fewest(4, 5, 0, 120), 3);
        due("fewest(29, 20, 0, 120)", u.fewest(29, 20, 0, 120), 5);
        due("fewest(1, 1, 2, 120)", u.fewest(1, 1, 2, 120), 4);
        due("fewest(1, 29, 0, 120)", u.fewest(1, 29, 0, 120), 1);
        due("fewest(3, 58, 0, 120)", u.fewest(3, 58, 0, 120), 2);
        due("fewest(1000, 1, 0, 120)", u.fewest(1000, 1, 0, 120), NONE);
        due("fewest(1, 1000, 0, 120)", u.fewest(1, 1000, 0, 120), NONE);
        due("count(2)", u.count(2), 14);
        rowRefusals(u);
        due("count(2)", u.count(2), 14);
        hand(u);
        rowsAreSoughtSixtyTimes();
    }

    /** What is not as told is refused by all four alike, and is not counted. */
    private static void rowRefusals(UnitShares u) {
        for (int part : new int[] {0, -1, 1001, LOW, HIGH}) {
            allRefuse(u, part, 1, 1, 0, 10);
            allRefuse(u, 1, part, 1, 0, 10);
        }
        for (int sort : new int[] {-1, 6, LOW, HIGH}) {
            allRefuse(u, 1, 2, 1, sort, 10);
        }
        for (int bound : new int[] {1, 0, -1, 121, LOW, HIGH}) {
            allRefuse(u, 1, 2, 1, 0, bound);
        }
        for (int k : new int[] {0, 6, -1, LOW, HIGH}) {
            due("ways k " + k, u.ways(1, 2, k, 0, 10), OUTSIDE);
            due("take k " + k, u.take(1, 2, k, 0, 10, 0), OUTSIDE);
            due("smallest k " + k, u.smallest(1, 2, k, 0, 10), OUTSIDE);
        }
    }

    private static void allRefuse(UnitShares u, int a, int b, int k, int sort, int bound) {
        String with = " with " + a + ", " + b + ", " + k + ", " + sort + ", " + bound;
        due("fewest" + with, u.fewest(a, b, sort, bound), OUTSIDE);
        due("ways" + with, u.ways(a, b, k, sort, bound), OUTSIDE);
        due("take" + with, u.take(a, b, k, sort, bound, 0), OUTSIDE);
        due("smallest" + with, u.smallest(a, b, k, sort, bound), OUTSIDE);
    }

    private static void rowsAreSoughtSixtyTimes() {
        UnitShares u = new UnitShares();
        for (int i = 0; i < 15; i++) {
            due("fewest", u.fewest(1, 2, 0, 2), 1);
            due("ways", u.ways(1, 2, 1, 0, 2), 1);
            due("take", u.take(1, 2, 1, 0, 2, i - 7), i == 7 ? 1 : NONE);
            due("smallest", u.smallest(1, 3, 1, 0, 2), NONE);
            due("ways", u.ways(0, 2, 1, 0, 2), OUTSIDE);
        }
        due("count(2)", u.count(2), 60);
        due("fewest", u.fewest(1, 2, 0, 2), FULL);
        due("ways", u.ways(1, 2, 1, 0, 2), FULL);
        due("take", u.take(1, 3, 1, 0, 3, 0), FULL);
        due("smallest", u.smallest(1, 3, 1, 0, 3), FULL);
        allRefuse(u, 0, 1, 1, 0, 2);
        due("count(2)", u.count(2), 60);
        hand(u, 2);
    }

    private static void ways() {
        UnitShares u = new UnitShares();
        due("ways(1, 1, 1, 0, 120)", u.ways(1, 1, 1, 0, 120), 0);
        due("ways(1, 1, 2, 0, 120)", u.ways(1, 1, 2, 0, 120), 0);
        due("ways(1, 1, 3, 0, 120)", u.ways(1, 1, 3, 0, 120), 1);
        due("ways(1, 1, 4, 0, 42)", u.ways(1, 1, 4, 0, 42), 6);
        due("ways(1, 1, 4, 0, 41)", u.ways(1, 1, 4, 0, 41), 5);
        // These counts come from going through all rows of five numbers up to 120.
        due("ways(1, 1, 5, 0, 120)", u.ways(1, 1, 5, 0, 120), 47);
        due("ways(1, 8, 5, 0, 120)", u.ways(1, 8, 5, 0, 120), 425);
        due("ways(125, 1000, 5, 0, 120)", u.ways(125, 1000, 5, 0, 120), 425);
        due("ways(7, 29, 5, 0, 120)", u.ways(7, 29, 5, 0, 120), 0);
        // Primes and powers that only the lower part of the fraction lets in.
        due("ways(1, 113, 1, 0, 120)", u.ways(1, 113, 1, 0, 120), 1);
        due("ways(1, 64, 1, 0, 120)", u.ways(1, 64, 1, 0, 120), 1);
        due("ways(5, 81, 2, 0, 120)", u.ways(5, 81, 2, 0, 120), 0);
        due("ways(10, 81, 2, 0, 120)", u.ways(10, 81, 2, 0, 120), 1);
        due("ways(3, 98, 2, 0, 120)", u.ways(3, 98, 2, 0, 120), 1);
        due("ways(60, 899, 2, 0, 120)", u.ways(60, 899, 2, 0, 120), 1);
        // One of these is 23, 69, 115: the only way in which 23 goes.
        due("ways(1, 15, 3, 0, 120)", u.ways(1, 15, 3, 0, 120), 22);
        due("ways(1, 2, 2, 0, 6)", u.ways(1, 2, 2, 0, 6), 1);
        due("ways(1, 2, 2, 0, 5)", u.ways(1, 2, 2, 0, 5), 0);
        due("ways(1, 2, 2, 2, 120)", u.ways(1, 2, 2, 2, 120), 0);
        due("ways(4, 9, 2, 1, 9)", u.ways(4, 9, 2, 1, 9), 1);
        due("ways(13, 36, 2, 5, 9)", u.ways(13, 36, 2, 5, 9), 1);
        u.bar(3, true);
        due("ways(4, 9, 2, 1, 9) with 3 barred", u.ways(4, 9, 2, 1, 9), 0);
        hand(u);
    }

    private static void take() {
        UnitShares u = holding(7, 8);
        int[][] rows = {{2, 4, 6, 12}, {2, 3, 7, 42}};
        due("take(1, 1, 4, 0, 60, 5)", u.take(1, 1, 4, 0, 60, 5), 1);
        hand(u, rows[0]);
        due("take(1, 1, 4, 0, 60, 0)", u.take(1, 1, 4, 0, 60, 0), 1);
        hand(u, rows[1]);
        due("take(1, 1, 4, 0, 60, 1)", u.take(1, 1, 4, 0, 60, 1), 1);
        hand(u, 2, 3, 8, 24);
        due("take(1, 1, 4, 0, 60, 4)", u.take(1, 1, 4, 0, 60, 4), 1);
        hand(u, 2, 4, 5, 20);
        for (int i : new int[] {6, -1, LOW, HIGH}) {
            due("take(1, 1, 4, 0, 60, " + i + ")", u.take(1, 1, 4, 0, 60, i), NONE);
        }
        hand(u, 2, 4, 5, 20);
        due("take(1, 120, 1, 0, 120, 0)", u.take(1, 120, 1, 0, 120, 0), 1);
        hand(u, 120);
        due("take(1, 120, 1, 0, 120, 1)", u.take(1, 120, 1, 0, 120, 1), NONE);
        due("take(137, 60, 5, 0, 120, 0)", u.take(137, 60, 5, 0, 120, 0), NONE);
        due("take(29, 20, 5, 0, 120, 0)", u.take(29, 20, 5, 0, 120, 0), 1);
        hand(u, 2, 3, 4, 5, 6);
        due("count(2)", u.count(2), 12);
        rowsStandInOrder();
    }

    /** Every row comes once, the next being above the one before it. */
    private static void rowsStandInOrder() {
        UnitShares u = new UnitShares();
        int total = u.ways(1, 1, 5, 0, 120);
        int[] before = new int[5];
        for (int i = 0; i < total; i++) {
            due("take " + i, u.take(1, 1, 5, 0, 120, i), 1);
            due("against(1, 1)", u.against(1, 1), 0);
            int[] now = new int[5];
            for (int j = 0; j < 5; j++) {
                now[j] = u.held(j);
            }
            due("row " + i + " is behind the one before", java.util.Arrays.compare(before, now) < 0 ? 1 : 0, 1);
            before = now;
        }
        due("take past the end", u.take(1, 1, 5, 0, 120, total), NONE);
    }

    private static void smallest() {
        UnitShares u = holding(7);
        due("smallest(1, 1, 3, 0, 5)", u.smallest(1, 1, 3, 0, 5), NONE);
        hand(u, 7);
        due("smallest(1, 1, 4, 0, 120)", u.smallest(1, 1, 4, 0, 120), 12);
        hand(u, 2, 4, 6, 12);
        due("smallest(1, 1, 5, 0, 120)", u.smallest(1, 1, 5, 0, 120), 15);
        hand(u, 2, 4, 10, 12, 15);
        due("smallest(1, 2, 1, 0, 120)", u.smallest(1, 2, 1, 0, 120), 2);
        hand(u, 2);
        due("smallest(1, 3, 4, 3, 120)", u.smallest(1, 3, 4, 3, 120), 24);
        hand(u, 8, 9, 18, 24);
        // Of rows with a like greatest number the first in order.
        due("smallest(3, 4, 4, 0, 120)", u.smallest(3, 4, 4, 0, 120), 15);
        hand(u, 2, 10, 12, 15);
        due("smallest(1, 4, 4, 0, 30)", u.smallest(1, 4, 4, 0, 30), 28);
        hand(u, 8, 21, 24, 28);
        due("smallest(6, 11, 4, 0, 22)", u.smallest(6, 11, 4, 0, 22), 22);
        hand(u, 3, 9, 18, 22);
        u.bar(12, true);
        due("smallest(1, 1, 4, 0, 120) with 12 barred", u.smallest(1, 1, 4, 0, 120), 15);
        hand(u, 2, 3, 10, 15);
        due("count(2)", u.count(2), 9);
    }

    private static void greedy() {
        UnitShares u = new UnitShares();
        due("greedy(1, 1)", u.greedy(1, 1), 3);
        due("greedy(3, 2)", u.greedy(3, 2), 6);
        due("step(5)", u.step(5), 20);
        due("greedy(4, 17)", u.greedy(4, 17), 4);
        due("greedy(5, 121)", u.greedy(5, 121), 2);
        due("greedy(1, 1000)", u.greedy(1, 1000), 1);
        due("greedy(1000, 1)", u.greedy(1000, 1), 27);
        due("greedy(1000, 1000)", u.greedy(1000, 1000), 3);
        due("step(2)", u.step(2), 6);
        for (int part : new int[] {0, -1, 1001, LOW, HIGH}) {
            due("greedy(" + part + ", 1)", u.greedy(part, 1), OUTSIDE);
            due("greedy(1, " + part + ")", u.greedy(1, part), OUTSIDE);
        }
        due("count(4)", u.count(4), 3);
        due("done()", u.done(), 1);
        greedyJustWithinAndJustBeyond();
    }

    /** Fractions that come close to the largest step and to the largest lower part. */
    private static void greedyJustWithinAndJustBeyond() {
        UnitShares u = new UnitShares();
        due("greedy(804, 845)", u.greedy(804, 845), 6);
        due("step(5)", u.step(5), 999760905);
        due("done()", u.done(), 1);
        due("greedy(177, 832)", u.greedy(177, 832), 3);
        due("left(3, 0)", u.left(3, 0), 1);
        due("left(3, 1)", u.left(3, 1), 1000051520);
        due("done()", u.done(), 0);
        due("greedy(119, 383)", u.greedy(119, 383), 4);
        due("step(3)", u.step(3), 577309);
        due("left(4, 1)", u.left(4, 1), 999856467134L);
        due("done()", u.done(), 0);
        // The fifth would be 577361, with 1000036595602 below.
        due("greedy(557, 601)", u.greedy(557, 601), 4);
        due("step(4)", u.step(4), NONE);
        due("done()", u.done(), 0);
    }

    private static void step() {
        UnitShares u = new UnitShares();
        due("step(0)", u.step(0), NONE);
        u.greedy(4, 17);
        int[] steps = {5, 29, 1233, 3039345};
        for (int i = 0; i < steps.length; i++) {
            due("step(" + i + ")", u.step(i), steps[i]);
        }
        for (int i : new int[] {4, 40, -1, LOW, HIGH}) {
            due("step(" + i + ")", u.step(i), NONE);
        }
        u.greedy(1000, 1);
        for (int i = 0; i < 27; i++) {
            due("step(" + i + ")", u.step(i), i + 2);
        }
        due("step(27)", u.step(27), NONE);
        u.greedy(1, 7);
        due("step(0)", u.step(0), 7);
        due("step(1)", u.step(1), NONE);
        u.put(9);
        due("step(0)", u.step(0), 7);
    }

    private static void left() {
        UnitShares u = new UnitShares();
        due("left(0, 2)", u.left(0, 2), OUTSIDE);
        due("left(1, 2)", u.left(1, 2), UNKNOWN);
        u.greedy(10, 242);
        long[][] rests = {{5, 121}, {4, 3025}, {3, 2289925}};
        for (int i = 0; i < rests.length; i++) {
            due("left(" + i + ", 0)", u.left(i, 0), rests[i][0]);
            due("left(" + i + ", 1)", u.left(i, 1), rests[i][1]);
        }
        for (int i : new int[] {3, -1, LOW, HIGH}) {
            due("left(" + i + ", 0)", u.left(i, 0), UNKNOWN);
            due("left(" + i + ", 5)", u.left(i, 5), UNKNOWN);
        }
        for (int what : new int[] {2, -1, LOW, HIGH}) {
            due("left(2, " + what + ")", u.left(2, what), OUTSIDE);
        }
        u.greedy(1, 1);
        due("left(2, 0)", u.left(2, 0), 1);
        due("left(2, 1)", u.left(2, 1), 6);
        due("left(3, 0)", u.left(3, 0), 0);
        due("left(3, 1)", u.left(3, 1), 1);
        due("left(4, 0)", u.left(4, 0), UNKNOWN);
        u.greedy(1000, 1);
        due("left(0, 0)", u.left(0, 0), 1000);
        due("left(1, 0)", u.left(1, 0), 1999);
        due("left(1, 1)", u.left(1, 1), 2);
        due("left(27, 1)", u.left(27, 1), 80313433200L);
    }

    private static void done() {
        UnitShares u = new UnitShares();
        due("done()", u.done(), 0);
        u.greedy(1, 1);
        due("done()", u.done(), 1);
        u.greedy(5, 121);
        due("done() when spent", u.done(), 0);
        u.greedy(1000, 1);
        due("done() when spent", u.done(), 0);
        u.greedy(4, 17);
        due("done()", u.done(), 1);
        u.greedy(0, 17);
        due("done() behind a refusal", u.done(), 1);
    }

    private static void put() {
        UnitShares u = new UnitShares();
        due("put(6)", u.put(6), 1);
        due("put(1000)", u.put(1000), 2);
        due("put(2)", u.put(2), 3);
        hand(u, 2, 6, 1000);
        due("put(6)", u.put(6), STATE);
        due("put(7)", u.put(7), 4);
        due("put(3)", u.put(3), 5);
        due("put(4)", u.put(4), FULL);
        due("put(3) there, and full", u.put(3), STATE);
        for (int n : new int[] {1, 0, -6, 1001, LOW, HIGH}) {
            due("put(" + n + ")", u.put(n), OUTSIDE);
        }
        hand(u, 2, 3, 6, 7, 1000);
    }

    private static void drop() {
        UnitShares u = holding(2, 3, 6, 7, 1000);
        due("drop(6)", u.drop(6), 4);
        due("drop(6)", u.drop(6), UNKNOWN);
        due("drop(1000)", u.drop(1000), 3);
        due("drop(2)", u.drop(2), 2);
        hand(u, 3, 7);
        for (int n : new int[] {0, -1, 4, 1001, LOW, HIGH}) {
            due("drop(" + n + ")", u.drop(n), UNKNOWN);
        }
        due("drop(3)", u.drop(3), 1);
        due("drop(7)", u.drop(7), 0);
        due("drop(7)", u.drop(7), UNKNOWN);
        hand(u);
    }

    private static void clear() {
        UnitShares u = holding(2, 3, 6);
        due("clear()", u.clear(), 3);
        due("clear()", u.clear(), 0);
        hand(u);
        due("drop(2)", u.drop(2), UNKNOWN);
        due("put(3)", u.put(3), 1);
        hand(u, 3);
    }

    private static void held() {
        UnitShares u = holding(9, 4, 7, 2, 5);
        hand(u, 2, 4, 5, 7, 9);
        for (int i : new int[] {5, -1, LOW, HIGH}) {
            due("held(" + i + ")", u.held(i), NONE);
        }
        u.drop(9);
        due("held(4)", u.held(4), NONE);
    }

    private static void sum() {
        UnitShares u = new UnitShares();
        due("sum(0)", u.sum(0), 0);
        due("sum(1)", u.sum(1), 1);
        u.put(6);
        u.put(3);
        due("sum(0)", u.sum(0), 1);
        due("sum(1)", u.sum(1), 2);
        u.put(2);
        due("sum(0)", u.sum(0), 1);
        due("sum(1)", u.sum(1), 1);
        for (int what : new int[] {2, -1, LOW, HIGH}) {
            due("sum(" + what + ")", u.sum(what), OUTSIDE);
        }
        UnitShares large = holding(997, 991, 983, 977, 971);
        due("sum(1)", large.sum(1), 997L * 991 * 983 * 977 * 971);
        due("sum(0)", large.sum(0), 991L * 983 * 977 * 971 + 997L * 983 * 977 * 971 + 997L * 991 * 977 * 971
            + 997L * 991 * 983 * 971 + 997L * 991 * 983 * 977);
    }

    private static void split() {
        UnitShares u = holding(31, 5, 2);
        due("split(31)", u.split(31), 992);
        hand(u, 2, 5, 32, 992);
        due("split(32)", u.split(32), OUTSIDE);
        due("split(2)", u.split(2), 6);
        hand(u, 3, 5, 6, 32, 992);
        for (int n : new int[] {2, 0, -1, 1001, LOW, HIGH}) {
            due("split(" + n + ")", u.split(n), UNKNOWN);
        }
        due("split(992) above, and full", u.split(992), OUTSIDE);
        due("split(5) there, and full", u.split(5), STATE);
        due("split(3) full", u.split(3), FULL);
        hand(u, 3, 5, 6, 32, 992);
        due("split(2) with 6 there", holding(2, 6).split(2), STATE);
        due("split(2) with 3 there", holding(2, 3).split(2), STATE);
        UnitShares four = holding(3, 10, 11, 13);
        due("split(3) of four", four.split(3), 12);
        hand(four, 4, 10, 11, 12, 13);
    }

    private static void join() {
        UnitShares u = holding(3, 6, 7, 42);
        due("join(42, 7) with 6 there", u.join(42, 7), STATE);
        due("join(3, 6)", u.join(3, 6), 2);
        hand(u, 2, 7, 42);
        due("join(42, 7)", u.join(42, 7), 6);
        hand(u, 2, 6);
        due("join(2, 6)", u.join(2, 6), OUTSIDE);
        due("join(2, 2)", u.join(2, 2), OUTSIDE);
        due("join(3, 3)", u.join(3, 3), UNKNOWN);
        due("join(2, 3)", u.join(2, 3), UNKNOWN);
        due("join(3, 2)", u.join(3, 2), UNKNOWN);
        due("join(0, 0)", u.join(0, 0), UNKNOWN);
        due("join(-1, 1)", u.join(-1, 1), UNKNOWN);
        due("join of ends", u.join(LOW, HIGH), UNKNOWN);
        hand(u, 2, 6);
        UnitShares five = holding(10, 15, 20, 30, 1000);
        due("join(15, 30) with 10 there", five.join(15, 30), STATE);
        due("join(20, 30)", five.join(20, 30), 12);
        hand(five, 10, 12, 15, 1000);
        // Half of 10 is whole, but 10 is there only once.
        due("join(10, 10)", five.join(10, 10), OUTSIDE);
        hand(five, 10, 12, 15, 1000);
    }

    private static void against() {
        UnitShares u = new UnitShares();
        due("against(1, 1000)", u.against(1, 1000), -1);
        u.put(2);
        due("against(1, 2)", u.against(1, 2), 0);
        due("against(500, 1000)", u.against(500, 1000), 0);
        due("against(499, 1000)", u.against(499, 1000), 1);
        due("against(501, 1000)", u.against(501, 1000), -1);
        due("against(1000, 1)", u.against(1000, 1), -1);
        for (int part : new int[] {0, -1, 1001, LOW, HIGH}) {
            due("against(" + part + ", 1)", u.against(part, 1), OUTSIDE);
            due("against(1, " + part + ")", u.against(1, part), OUTSIDE);
        }
        UnitShares large = holding(997, 991, 983, 977, 971);
        due("against(1000, 1)", large.against(1000, 1), -1);
        due("against(1, 1000)", large.against(1, 1000), 1);
    }

    private static void pairs() {
        UnitShares u = new UnitShares();
        due("pairs(1, 1)", u.pairs(1, 1), 1);
        due("pairs(1, 2)", u.pairs(1, 2), 2);
        due("pairs(500, 1000)", u.pairs(500, 1000), 2);
        due("pairs(2, 1)", u.pairs(2, 1), 1);
        due("pairs(3, 2)", u.pairs(3, 2), 1);
        due("pairs(3, 1)", u.pairs(3, 1), 0);
        due("pairs(1000, 1)", u.pairs(1000, 1), 0);
        due("pairs(1, 997)", u.pairs(1, 997), 2);
        due("pairs(1, 720)", u.pairs(1, 720), 68);
        due("pairs(1, 1000)", u.pairs(1, 1000), 25);
        for (int part : new int[] {0, -1, 1001, LOW, HIGH}) {
            due("pairs(" + part + ", 1)", u.pairs(part, 1), OUTSIDE);
            due("pairs(1, " + part + ")", u.pairs(1, part), OUTSIDE);
        }
    }

    private static void pair() {
        UnitShares u = new UnitShares();
        int[][] pairs = {{7, 42}, {8, 24}, {9, 18}, {10, 15}, {12, 12}};
        for (int i = 0; i < pairs.length; i++) {
            due("pair(1, 6, " + i + ", 0)", u.pair(1, 6, i, 0), pairs[i][0]);
            due("pair(1, 6, " + i + ", 1)", u.pair(1, 6, i, 1), pairs[i][1]);
        }
        for (int i : new int[] {5, -1, LOW, HIGH}) {
            due("pair(1, 6, " + i + ", 0)", u.pair(1, 6, i, 0), NONE);
        }
        due("pair(1, 1000, 0, 1)", u.pair(1, 1000, 0, 1), 1001000);
        due("pair(3, 2, 0, 0)", u.pair(3, 2, 0, 0), 1);
        for (int what : new int[] {2, -1, LOW, HIGH}) {
            due("pair(1, 6, 0, " + what + ")", u.pair(1, 6, 0, what), OUTSIDE);
        }
        for (int part : new int[] {0, -1, 1001, LOW, HIGH}) {
            due("pair(" + part + ", 1, 0, 0)", u.pair(part, 1, 0, 0), OUTSIDE);
            due("pair(1, " + part + ", 0, 0)", u.pair(1, part, 0, 0), OUTSIDE);
        }
        due("count(3)", u.count(3), 0);
    }

    private static void triples() {
        UnitShares u = new UnitShares();
        due("triples(1, 1)", u.triples(1, 1), 3);
        due("triples(1, 2)", u.triples(1, 2), 10);
        due("triples(20, 40)", u.triples(20, 40), 10);
        due("triples(1, 3)", u.triples(1, 3), 21);
        due("triples(3, 1)", u.triples(3, 1), 1);
        due("triples(1000, 1)", u.triples(1000, 1), 0);
        due("triples(1000, 40)", u.triples(1000, 40), 0);
        due("triples(1, 40)", u.triples(1, 40), 604);
        due("count(3)", u.count(3), 8);
        for (int part : new int[] {0, -1, 1001, LOW, HIGH}) {
            due("triples(" + part + ", 1)", u.triples(part, 1), OUTSIDE);
            due("triples(1, " + part + ")", u.triples(1, part), OUTSIDE);
        }
        due("triples(1, 41)", u.triples(1, 41), OUTSIDE);
        due("count(3)", u.count(3), 8);
        for (int i = 8; i < 40; i++) {
            due("triples(1, 1)", u.triples(1, 1), 3);
        }
        due("triples(1, 1)", u.triples(1, 1), FULL);
        due("triple(1, 1, 0, 0)", u.triple(1, 1, 0, 0), FULL);
        due("triples(1, 41)", u.triples(1, 41), OUTSIDE);
        due("count(3)", u.count(3), 40);
        due("pairs(1, 2)", u.pairs(1, 2), 2);
    }

    private static void triple() {
        UnitShares u = new UnitShares();
        int[][] triples = {{2, 3, 6}, {2, 4, 4}, {3, 3, 3}};
        for (int i = 0; i < triples.length; i++) {
            for (int what = 0; what < 3; what++) {
                due("triple(1, 1, " + i + ", " + what + ")", u.triple(1, 1, i, what), triples[i][what]);
            }
        }
        for (int i : new int[] {3, -1, LOW, HIGH}) {
            due("triple(1, 1, " + i + ", 0)", u.triple(1, 1, i, 0), NONE);
        }
        due("triple(1, 40, 0, 0)", u.triple(1, 40, 0, 0), 41);
        due("triple(1, 40, 0, 1)", u.triple(1, 40, 0, 1), 1641);
        due("triple(1, 40, 0, 2)", u.triple(1, 40, 0, 2), 1640 * 1641);
        due("triple(1, 40, 603, 2)", u.triple(1, 40, 603, 2), 120);
        due("triple(1, 40, 604, 2)", u.triple(1, 40, 604, 2), NONE);
        due("count(3)", u.count(3), 18);
        for (int what : new int[] {3, -1, LOW, HIGH}) {
            due("triple(1, 1, 0, " + what + ")", u.triple(1, 1, 0, what), OUTSIDE);
        }
        for (int part : new int[] {0, -1, 1001, LOW, HIGH}) {
            due("triple(" + part + ", 1, 0, 0)", u.triple(part, 1, 0, 0), OUTSIDE);
            due("triple(1, " + part + ", 0, 0)", u.triple(1, part, 0, 0), OUTSIDE);
        }
        due("triple(1, 41, 0, 0)", u.triple(1, 41, 0, 0), OUTSIDE);
        due("count(3)", u.count(3), 18);
        for (int i = 18; i < 40; i++) {
            due("triple(4, 1, 0, 0)", u.triple(4, 1, 0, 0), NONE);
        }
        due("triple(1, 1, 0, 0)", u.triple(1, 1, 0, 0), FULL);
        due("triples(1, 1)", u.triples(1, 1), FULL);
        due("triple(1, 1, 0, 3)", u.triple(1, 1, 0, 3), OUTSIDE);
    }

    private static void count() {
        UnitShares u = holding(2, 3);
        u.bar(2, true);
        u.bar(3, true);
        u.bar(120, true);
        u.ways(1, 1, 3, 0, 120);
        u.triples(1, 1);
        u.triple(1, 1, 0, 0);
        u.pairs(1, 1);
        u.greedy(4, 17);
        int[] counts = {2, 3, 1, 2, 4};
        for (int what = 0; what < counts.length; what++) {
            due("count(" + what + ")", u.count(what), counts[what]);
        }
        for (int what : new int[] {5, -1, LOW, HIGH}) {
            due("count(" + what + ")", u.count(what), OUTSIDE);
        }
    }

    private static void digest() {
        UnitShares u = new UnitShares();
        u.bar(120, true);
        u.bar(2, true);
        u.put(9);
        u.put(4);
        due("digest()", u.digest(), digestOf(2, 120, 4, 9, 0, 0, 0));
        u.greedy(1, 1);
        due("digest()", u.digest(), digestOf(2, 120, 4, 9, 2, 3, 6, 1, 0, 0));
        u.ways(1, 1, 3, 0, 120);
        u.ways(1, 1, 3, 0, 120);
        u.triples(1, 1);
        due("digest()", u.digest(), digestOf(2, 120, 4, 9, 2, 3, 6, 1, 2, 1));
        u.greedy(5, 121);
        u.clear();
        u.bar(2, false);
        due("digest()", u.digest(), digestOf(120, 25, 757, 0, 2, 1));
        // The sum wraps in a long.
        u.greedy(1000, 1);
        long[] all = new long[1 + 27 + 3];
        all[0] = 120;
        for (int i = 0; i < 27; i++) {
            all[i + 1] = i + 2;
        }
        all[29] = 2;
        all[30] = 1;
        due("digest()", u.digest(), digestOf(all));
    }
}
