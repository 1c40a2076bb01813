import java.lang.reflect.InvocationTargetException;
import java.lang.reflect.Method;
import java.math.BigInteger;
import java.util.ArrayList;
import java.util.HashMap;
import java.util.List;
import java.util.Map;
import java.util.Set;
import java.util.TreeMap;
import java.util.regex.Matcher;
import java.util.regex.Pattern;

/**
 * Each sentence of DOC.md that names a boundary case, with a test of its own. A test is one or more
 * runs of calls, each on a new object. Behind every call of a run, all that this call must leave
 * alone (all there is, if it is refused) is compared with what it was ahead of it; other objects that
 * had the same calls are asked for that, so that the asking itself can't hide anything.
 *
 * <pre>
 * put(2) = 1; 3 x put(2) = STATE   calls with the answers that are due
 * new                              what follows is a run on a new object
 * rich                             calls that leave something of everything
 * hand: 2 6                        THE HAND holds exactly these
 * digest: 2 6 0 0 0                digest() is that of these numbers
 * each 2..9: bar(#, true) = 0      the calls with 2, then with 3, ..
 * outside 2..9: bar(#, true)       a rich run of its own: what is not 2 to 9 is OUTSIDE
 * </pre>
 */
public final class BoundaryTests {
    private static final int MOST_CALLS = 512;

    private static final Set<Integer> SMOOTH =
        Set.of(2, 3, 4, 6, 8, 9, 12, 16, 18, 24, 27, 32, 36, 48, 54, 64, 72, 81, 96, 108);
    private static final Set<Integer> PRIMES =
        Set.of(2, 3, 5, 7, 11, 13, 17, 19, 23, 29, 31, 37, 41, 43, 47, 53, 59, 61, 67, 71, 73, 79, 83,
            89, 97, 101, 103, 107, 109, 113);
    private static final Set<Integer> SQUARES = Set.of(4, 9, 16, 25, 36, 49, 64, 81, 100);

    private static int sentences = 0;
    private static int wrong = 0;
    private static String section = "";
    private static String sentence = "";

    public static void main(String[] args) {
        fractions();
        lifeOfAnObject();
        rows();
        bounds();
        sorts();
        barredNumbers();
        order();
        smallestRows();
        greedyNumbers();
        greedyEnds();
        handNumbers();
        splittingAndJoining();
        pairsOfFractions();
        triplesOfFractions();
        refusals();
        rowRefusals();
        rowsSought();
        newObject();
        bar();
        isOf();
        fewest();
        ways();
        take();
        smallest();
        greedy();
        step();
        left();
        done();
        put();
        drop();
        clear();
        held();
        sum();
        split();
        splitRefusals();
        join();
        joinRefusals();
        against();
        pairs();
        pair();
        triples();
        triplesDone();
        triple();
        count();
        digest();
        digestWraps();
        System.out.println(sentences + " sentences, " + wrong + " answers or states wrong");
        if (wrong != 0) {
            System.exit(1);
        }
    }

    // ---- What it is

    private static void fractions() {
        section = "What it is: A FRACTION is a by b (1 to 1000 each)";
        sentence("fewest", """
            fewest(1, 1, 0, 120) = 3; fewest(1000, 1000, 0, 120) = 3; fewest(500, 1000, 0, 120) = 1
            fewest(1000, 1, 0, 120) = NONE; fewest(1, 1000, 0, 120) = NONE
            outside 1..1000: fewest(#, 1, 0, 120)
            outside 1..1000: fewest(1, #, 0, 120)
            """);
        sentence("ways", """
            ways(1, 1, 3, 0, 120) = 1; ways(1000, 1000, 3, 0, 120) = 1; ways(500, 1000, 2, 0, 120) = 1
            ways(1000, 1, 5, 0, 120) = 0; ways(1, 1000, 5, 0, 120) = 0
            outside 1..1000: ways(#, 1, 3, 0, 120)
            outside 1..1000: ways(1, #, 1, 0, 120)
            """);
        sentence("take", """
            take(1, 1, 3, 0, 120, 0) = 1; take(1000, 1000, 4, 0, 120, 5) = 1; hand: 2 4 6 12
            take(500, 1000, 1, 0, 120, 0) = 1; take(1000, 1, 5, 0, 120, 0) = NONE; take(1, 1000, 1, 0, 120, 0) = NONE
            outside 1..1000: take(#, 1, 3, 0, 120, 0)
            outside 1..1000: take(1, #, 1, 0, 120, 0)
            """);
        sentence("smallest", """
            smallest(1, 1, 3, 0, 120) = 6; smallest(1000, 1000, 4, 0, 120) = 12; smallest(500, 1000, 1, 0, 120) = 2
            smallest(1000, 1, 5, 0, 120) = NONE; smallest(1, 1000, 1, 0, 120) = NONE
            outside 1..1000: smallest(#, 1, 3, 0, 120)
            outside 1..1000: smallest(1, #, 1, 0, 120)
            """);
        sentence("greedy", """
            greedy(1, 1) = 3; greedy(1000, 1) = 27; greedy(1, 1000) = 1; step(0) = 1000
            greedy(1000, 1000) = 3; greedy(1000, 999) = 4; greedy(999, 1000) = 5
            outside 1..1000: greedy(#, 1)
            outside 1..1000: greedy(1, #)
            """);
        sentence("against", """
            put(1000) = 1; against(1, 1000) = 0; against(1, 999) = -1; against(1, 1) = -1; against(1000, 1) = -1
            put(500) = 2; against(3, 1000) = 0; against(2, 1000) = 1; against(4, 1000) = -1
            take(1, 1, 3, 0, 6, 0) = 1; against(1000, 1000) = 0; against(999, 1000) = 1; against(1000, 999) = -1
            outside 1..1000: against(#, 1)
            outside 1..1000: against(1, #)
            """);
        sentence("pairs", """
            pairs(1, 1) = 1; pairs(1, 1000) = 25; pairs(1000, 1) = 0; pairs(1000, 1000) = 1
            pairs(1000, 500) = 1; pairs(1000, 999) = 1; pairs(999, 1000) = 0
            outside 1..1000: pairs(#, 1)
            outside 1..1000: pairs(1, #)
            """);
        sentence("pair", """
            pair(1, 1, 0, 0) = 2; pair(1, 1000, 0, 1) = 1001000; pair(1000, 1, 0, 0) = NONE
            pair(1000, 1000, 0, 1) = 2; pair(1000, 999, 0, 1) = 999
            outside 1..1000: pair(#, 1, 0, 0)
            outside 1..1000: pair(1, #, 0, 0)
            """);
        sentence("triples and triple, as to a", """
            triples(1, 1) = 3; triples(1000, 1) = 0; triples(1000, 40) = 0
            triple(1, 1, 0, 0) = 2; triple(1000, 1, 0, 0) = NONE; triple(1000, 40, 0, 0) = NONE
            outside 1..1000: triples(#, 1)
            outside 1..1000: triple(#, 1, 0, 0)
            """);
    }

    private static void lifeOfAnObject() {
        section = "What it is: An object is used for at most 512 calls after it has been made";
        String before = """
            60 x ways(1, 2, 1, 0, 2) = 1; 40 x triples(1, 1) = 3
            each 2..120: bar(#, true) = 0
            put(2) = 1; put(3) = 2; put(5) = 3; put(7) = 4; put(11) = 5
            greedy(605, 161) = 35; 286 x pairs(1, 2) = 2
            """;
        for (String last : new String[] {
            "put(13) = FULL", "drop(11) = 4", "clear() = 5", "held(4) = 11", "held(5) = NONE", "sum(1) = 2310",
            "split(5) = FULL", "join(2, 3) = OUTSIDE", "against(1, 1) = 1", "bar(2, false) = 1", "isOf(120, 0) = 0",
            "fewest(1, 2, 0, 2) = FULL", "take(1, 2, 1, 0, 2, 0) = FULL", "step(34) = 36", "left(35, 1) = 570765031200",
            "done() = 0", "greedy(1, 1) = 3", "pairs(1, 1000) = 25", "triple(1, 1, 0, 0) = FULL", "count(1) = 119",
            "count(4) = 35",
        }) {
            sentence("the 512th is " + last, before + last);
        }
    }

    // ---- Terms

    private static void rows() {
        section = "Terms: A ROW is 1 to 5 unlike NUMBERS from 2 to N, the least first";
        sentence("1 to 5, for k", """
            ways(1, 2, 1, 0, 120) = 1; take(1, 2, 1, 0, 120, 0) = 1; smallest(1, 2, 1, 0, 120) = 2
            ways(29, 20, 5, 0, 120) = 1; take(29, 20, 5, 0, 120, 0) = 1; smallest(29, 20, 5, 0, 120) = 6
            outside 1..5: ways(1, 2, #, 0, 120)
            outside 1..5: take(1, 2, #, 0, 120, 0)
            outside 1..5: smallest(1, 2, #, 0, 120)
            """);
        // 29 by 20 is the sum of 2 to 6; the others need six.
        sentence("1 to 5, for fewest()", """
            fewest(1, 2, 0, 120) = 1; fewest(29, 20, 0, 120) = 5
            fewest(35, 24, 0, 120) = NONE; fewest(223, 140, 0, 120) = NONE
            """);
        // Like ones would be 2, 2; 3, 3; 8, 8; and 2, 4, 4 or 3, 3, 3.
        sentence("unlike", """
            ways(1, 1, 2, 0, 120) = 0
            ways(2, 3, 2, 0, 120) = 1; take(2, 3, 2, 0, 120, 0) = 1; hand: 2 6
            smallest(1, 4, 2, 0, 120) = 12; hand: 6 12
            ways(1, 1, 3, 0, 120) = 1; fewest(1, 1, 0, 5) = NONE
            """);
        // One over 1 would be the whole, and with it 3 by 2 and 4 by 3 would have two.
        sentence("from 2", """
            ways(1, 1, 1, 0, 120) = 0; take(1, 1, 1, 0, 120, 0) = NONE; smallest(1, 1, 1, 0, 120) = NONE
            fewest(1, 1, 0, 120) = 3; fewest(3, 2, 0, 120) = NONE
            fewest(4, 3, 0, 120) = 5; ways(4, 3, 5, 0, 120) = 2
            ways(1, 2, 1, 0, 120) = 1; take(1, 2, 1, 0, 120, 0) = 1; hand: 2
            """);
        sentence("the least first", """
            take(1, 1, 5, 0, 120, 0) = 1; hand: 2 3 7 70 105
            take(1, 1, 5, 0, 120, 46) = 1; hand: 3 4 5 6 20
            smallest(1, 1, 5, 0, 120) = 15; hand: 2 4 10 12 15
            """);
    }

    private static void bounds() {
        section = "Terms: N (a bound, 2 to 120)";
        sentence("2", """
            fewest(1, 2, 0, 2) = 1; ways(1, 2, 1, 0, 2) = 1; take(1, 2, 1, 0, 2, 0) = 1; smallest(1, 2, 1, 0, 2) = 2
            ways(1, 3, 1, 0, 2) = 0; ways(5, 6, 2, 0, 2) = 0; ways(1, 1, 5, 0, 2) = 0
            """);
        sentence("120", """
            fewest(1, 120, 0, 120) = 1; ways(1, 120, 1, 0, 120) = 1; take(1, 120, 1, 0, 120, 0) = 1; hand: 120
            clear() = 1; smallest(1, 120, 1, 0, 120) = 120; hand: 120
            ways(1, 121, 1, 0, 120) = 0; fewest(1, 121, 0, 120) = NONE
            ways(3, 4, 4, 0, 120) = 23; ways(3, 4, 4, 0, 119) = 22
            """);
        sentence("neither below nor above", """
            outside 2..120: fewest(1, 2, 0, #)
            outside 2..120: ways(1, 2, 1, 0, #)
            outside 2..120: take(1, 2, 1, 0, #, 0)
            outside 2..120: smallest(1, 2, 1, 0, #)
            """);
        boundAt("1, 7", 7);
        boundAt("1, 119", 119);
        boundAt("1, 120", 120);
        boundAt("5, 6", 2, 3);
        boundAt("1, 1", 2, 3, 6);
        boundAt("13, 12", 2, 3, 4);
        boundAt("77, 60", 2, 3, 4, 5);
        boundAt("29, 20", 2, 3, 4, 5, 6);
    }

    /** The only row of a fraction up to its greatest number: there at this bound, and not at the one below it. */
    private static void boundAt(String fraction, int... row) {
        StringBuilder numbers = new StringBuilder();
        for (int n : row) {
            numbers.append(" ").append(n);
        }
        int n = row[row.length - 1];
        sentence("N too, as the greatest of" + numbers, """
            fewest(@, 0, N) = K; ways(@, K, 0, N) = 1; take(@, K, 0, N, 0) = 1; hand: ROW
            clear() = K; smallest(@, K, 0, N) = N; hand: ROW
            new
            fewest(@, 0, M) = NONE; ways(@, K, 0, M) = 0; take(@, K, 0, M, 0) = NONE; smallest(@, K, 0, M) = NONE
            """.replaceAll("\\bN\\b", "" + n).replaceAll("\\bM\\b", "" + (n - 1)).replaceAll("\\bK\\b", "" + row.length)
            .replace("@", fraction).replace(" ROW", numbers));
    }

    private static void sorts() {
        section = "Terms: SORTS";
        String[] names = {
            "0 any NUMBERS", "1 odd", "2 even", "3 those into which no primes but 2, 3 go", "4 those that are no primes",
            "5 squares",
        };
        for (int sort = 0; sort < names.length; sort++) {
            StringBuilder asked = new StringBuilder();
            StringBuilder sought = new StringBuilder();
            for (int n = 2; n <= 120; n++) {
                asked.append("isOf(" + n + ", " + sort + ") = " + of(n, sort) + "\n");
                // An object seeks rows 60 times.
                sought.append("ways(1, " + n + ", 1, " + sort + ", 120) = " + of(n, sort) + (n == 60 ? "\nnew\n" : "\n"));
            }
            sentence(names[sort], asked + "new\n" + sought);
        }
        sentence("0 to 5", """
            isOf(4, 0) = 1; fewest(1, 4, 0, 4) = 1; ways(1, 4, 1, 0, 4) = 1; take(1, 4, 1, 0, 4, 0) = 1
            isOf(4, 5) = 1; fewest(1, 4, 5, 4) = 1; ways(1, 4, 1, 5, 4) = 1; take(1, 4, 1, 5, 4, 0) = 1
            smallest(1, 4, 1, 0, 4) = 4; smallest(1, 4, 1, 5, 4) = 4
            outside 0..5: isOf(4, #)
            outside 0..5: fewest(1, 4, #, 4)
            outside 0..5: ways(1, 4, 1, #, 4)
            outside 0..5: take(1, 4, 1, #, 4, 0)
            outside 0..5: smallest(1, 4, 1, #, 4)
            """);
        sentence("ROWS of a SORT hold NUMBERS of it alone", """
            ways(1, 3, 2, 1, 120) = 0; take(2, 9, 2, 1, 120, 0) = 1; hand: 5 45
            ways(1, 2, 3, 2, 120) = 1; take(1, 2, 3, 2, 120, 0) = 1; hand: 4 6 12
            ways(1, 2, 3, 3, 120) = 3; take(1, 2, 3, 3, 120, 0) = 1; hand: 3 8 24
            ways(1, 2, 3, 4, 120) = 1; take(1, 2, 3, 4, 120, 0) = 1; hand: 4 6 12
            ways(13, 36, 2, 5, 120) = 1; take(13, 36, 2, 5, 120, 0) = 1; hand: 4 9
            fewest(13, 36, 5, 9) = 2; fewest(13, 36, 5, 8) = NONE; fewest(1, 2, 5, 120) = NONE
            smallest(1, 2, 3, 1, 120) = NONE; smallest(1, 2, 3, 3, 120) = 12; hand: 4 6 12
            """);
    }

    private static int of(int n, int sort) {
        boolean[] is = {true, n % 2 == 1, n % 2 == 0, SMOOTH.contains(n), !PRIMES.contains(n), SQUARES.contains(n)};
        return is[sort] ? 1 : 0;
    }

    private static void barredNumbers() {
        section = "Terms: NUMBERS may be BARRED (2 to 120; none at first): they are of no SORT";
        sentence("2 to 120", """
            bar(2, true) = 0; bar(120, true) = 0; count(1) = 2
            isOf(2, 0) = 0; isOf(3, 0) = 1; isOf(119, 0) = 1; isOf(120, 0) = 0
            outside 2..120: bar(#, true)
            outside 2..120: bar(#, false)
            """);
        sentence("none at first", """
            count(1) = 0
            each 2..120: isOf(#, 0) = 1
            new
            each 2..120: bar(#, true) = 0
            """);
        sentence("of no SORT", """
            bar(36, true) = 0; bar(9, true) = 0
            each 0..5: isOf(36, #) = 0; isOf(9, #) = 0
            bar(36, false) = 1
            isOf(36, 0) = 1; isOf(36, 1) = 0; isOf(36, 2) = 1; isOf(36, 3) = 1; isOf(36, 4) = 1; isOf(36, 5) = 1
            """);
        sentence("in no ROW: not at its front", """
            bar(2, true) = 0; ways(1, 1, 3, 0, 120) = 0; fewest(1, 2, 0, 120) = 2; take(1, 1, 3, 0, 120, 0) = NONE
            bar(2, false) = 1; ways(1, 1, 3, 0, 120) = 1; fewest(1, 2, 0, 120) = 1; take(1, 1, 3, 0, 120, 0) = 1
            """);
        sentence("in no ROW: not within it", """
            bar(3, true) = 0; ways(1, 1, 3, 0, 120) = 0; fewest(1, 1, 0, 120) = 4; smallest(1, 1, 3, 0, 120) = NONE
            bar(3, false) = 1; ways(1, 1, 3, 0, 120) = 1; fewest(1, 1, 0, 120) = 3; smallest(1, 1, 3, 0, 120) = 6
            """);
        sentence("in no ROW: not at its end", """
            bar(6, true) = 0; ways(1, 1, 3, 0, 120) = 0; fewest(1, 1, 0, 120) = 4; take(1, 1, 3, 0, 120, 0) = NONE
            bar(6, false) = 1; ways(1, 1, 3, 0, 120) = 1; fewest(1, 1, 0, 120) = 3; take(1, 1, 3, 0, 120, 0) = 1
            bar(120, true) = 0; fewest(1, 120, 0, 120) = NONE; ways(3, 4, 4, 0, 120) = 22
            """);
        sentence("all of them", """
            each 2..120: bar(#, true) = 0
            count(1) = 119; fewest(1, 2, 0, 120) = NONE; ways(1, 2, 1, 0, 120) = 0; ways(1, 1, 5, 0, 120) = 0
            take(1, 2, 1, 0, 120, 0) = NONE; smallest(1, 1, 3, 0, 120) = NONE
            bar(120, false) = 1; fewest(1, 120, 0, 120) = 1; fewest(1, 60, 0, 120) = NONE
            """);
        sentence("nothing but ROWS has SORTS", """
            each 2..6: bar(#, true) = 0
            put(2) = 1; greedy(1, 2) = 1; step(0) = 2; pair(1, 1, 0, 0) = 2; triple(1, 1, 0, 0) = 2
            split(2) = 6; join(3, 6) = 2; hand: 2
            """);
    }

    private static void order() {
        section = "Terms: IN ORDER";
        sentence("by the first NUMBER that differs, the less first: the third, the second", """
            take(1, 1, 4, 0, 42, 0) = 1; hand: 2 3 7 42
            take(1, 1, 4, 0, 42, 1) = 1; hand: 2 3 8 24
            take(1, 1, 4, 0, 42, 2) = 1; hand: 2 3 9 18
            take(1, 1, 4, 0, 42, 3) = 1; hand: 2 3 10 15
            take(1, 1, 4, 0, 42, 4) = 1; hand: 2 4 5 20
            take(1, 1, 4, 0, 42, 5) = 1; hand: 2 4 6 12
            take(1, 1, 4, 0, 42, 6) = NONE
            """);
        sentence("by the first NUMBER that differs, the less first: the first", """
            take(1, 2, 3, 0, 120, 3) = 1; hand: 3 10 15
            take(1, 2, 3, 0, 120, 4) = 1; hand: 4 5 20
            take(1, 6, 2, 0, 120, 0) = 1; hand: 7 42
            take(1, 6, 2, 0, 120, 3) = 1; hand: 10 15
            """);
        sentence("of fewer NUMBERS first", """
            fewest(1, 2, 0, 120) = 1; ways(1, 2, 2, 0, 120) = 1; ways(1, 2, 3, 0, 120) = 6
            bar(2, true) = 0; fewest(1, 2, 0, 120) = 2; bar(6, true) = 0; fewest(1, 2, 0, 120) = 3
            """);
    }

    private static void smallestRows() {
        section = "Terms: THE SMALLEST of k NUMBERS";
        // The first in order ends with 42.
        sentence("the one whose greatest NUMBER is least", """
            smallest(1, 1, 4, 0, 120) = 12; hand: 2 4 6 12
            bar(12, true) = 0; smallest(1, 1, 4, 0, 120) = 15; hand: 2 3 10 15
            bar(15, true) = 0; smallest(1, 1, 4, 0, 120) = 18; hand: 2 3 9 18
            """);
        // The first in order is 2, 11, 12 for the one, 5, 19, 20 for the other.
        sentence("the one whose greatest NUMBER is least, by 1", """
            smallest(89, 132, 3, 0, 120) = 11; hand: 3 4 11
            bar(3, true) = 0; smallest(89, 132, 3, 0, 120) = 12; hand: 2 11 12
            smallest(23, 76, 3, 0, 120) = 19; hand: 6 12 19
            """);
        // 3, 4, 10, 15 has 15 too.
        sentence("of like ones the first IN ORDER", """
            smallest(3, 4, 4, 0, 120) = 15; hand: 2 10 12 15
            bar(2, true) = 0; smallest(3, 4, 4, 0, 120) = 15; hand: 3 4 10 15
            """);
        sentence("of k NUMBERS", """
            smallest(1, 2, 1, 0, 120) = 2; hand: 2
            smallest(1, 2, 2, 0, 120) = 6; hand: 3 6
            smallest(1, 2, 3, 0, 120) = 12; hand: 4 6 12
            """);
    }

    private static void greedyNumbers() {
        section = "Terms: GREEDY: again and again ..";
        sentence("the least NUMBER from 2 on", """
            greedy(1, 1) = 3; step(0) = 2; step(1) = 3; step(2) = 6
            greedy(1000, 999) = 4; step(0) = 2; step(3) = 999
            """);
        sentence("that has not come", """
            greedy(3, 2) = 6; step(0) = 2; step(1) = 3; step(2) = 4; step(3) = 5; step(4) = 6; step(5) = 20
            greedy(1, 2) = 1; greedy(1, 2) = 1; step(0) = 2; step(1) = NONE
            """);
        sentence("whose one over it is at most what is left", """
            greedy(1, 2) = 1; step(0) = 2; greedy(1, 1000) = 1; step(0) = 1000
            greedy(2, 3) = 2; step(0) = 2; step(1) = 6; greedy(2, 5) = 2; step(0) = 3; step(1) = 15
            greedy(499, 1000) = 4; step(0) = 3; greedy(501, 1000) = 2; step(0) = 2; step(1) = 1000
            """);
    }

    private static void greedyEnds() {
        section = "Terms: GREEDY: .. till";
        sentence("nothing is left (DONE)", """
            greedy(4, 17) = 4; done() = 1; left(3, 0) = 1; left(3, 1) = 3039345; left(4, 0) = 0; left(4, 1) = 1
            step(4) = NONE; left(5, 0) = UNKNOWN
            """);
        // No fraction has 40: of all 1000000 this one has the most.
        sentence("or 40 have come", """
            greedy(605, 161) = 35; done() = 0; step(34) = 36; step(35) = NONE; count(4) = 35
            left(35, 0) = 332872893517; left(35, 1) = 570765031200; left(36, 0) = UNKNOWN
            """);
        // 804 by 845, 558 by 239, 119 by 383 and 557 by 601 come closest of all to the limits.
        sentence("or the next one would be above 1000000000: one below it comes", """
            greedy(804, 845) = 6; step(5) = 999760905; done() = 1; left(5, 1) = 999760905; left(6, 0) = 0
            """);
        sentence("or the next one would be above 1000000000", """
            greedy(177, 832) = 3; step(2) = 12172; step(3) = NONE; done() = 0; count(4) = 3
            left(3, 0) = 1; left(3, 1) = 1000051520; left(4, 0) = UNKNOWN
            greedy(558, 239) = 16; step(15) = 9470; step(16) = NONE; done() = 0; count(4) = 16
            left(16, 0) = 995; left(16, 1) = 995048590536; left(17, 0) = UNKNOWN
            """);
        sentence("or what would be left has a lower part above 1000000000000: one below it comes", """
            greedy(119, 383) = 4; step(3) = 577309; left(4, 0) = 1; left(4, 1) = 999856467134; done() = 0
            """);
        sentence("or what would be left has a lower part above 1000000000000 (SPENT: that one does not come)", """
            greedy(557, 601) = 4; step(3) = 393; step(4) = NONE; done() = 0; count(4) = 4
            left(4, 0) = 3; left(4, 1) = 1732082; left(5, 0) = UNKNOWN
            greedy(1000, 1) = 27; step(26) = 28; step(27) = NONE; done() = 0; count(4) = 27
            left(27, 0) = 80078342044297; left(27, 1) = 80313433200; left(28, 0) = UNKNOWN
            """);
        sentence("in lowest terms", """
            greedy(605, 161) = 35; left(1, 0) = 1049; left(1, 1) = 322; left(6, 0) = 6971; left(6, 1) = 3220
            greedy(500, 1000) = 1; left(0, 0) = 1; left(0, 1) = 2
            """);
    }

    private static void handNumbers() {
        section = "Terms: THE HAND is 0 to 5 unlike NUMBERS from 2 to 1000, the least first (none at first)";
        sentence("none at first", "hand:; sum(0) = 0; sum(1) = 1; clear() = 0");
        sentence("0 to 5", """
            put(2) = 1; put(3) = 2; put(5) = 3; put(7) = 4; put(11) = 5; put(13) = FULL; hand: 2 3 5 7 11
            drop(2) = 4; drop(3) = 3; drop(5) = 2; drop(7) = 1; drop(11) = 0; hand:
            drop(11) = UNKNOWN; put(13) = 1
            """);
        sentence("unlike", "put(2) = 1; put(2) = STATE; put(1000) = 2; put(1000) = STATE; hand: 2 1000");
        sentence("from 2 to 1000", """
            put(2) = 1; put(1000) = 2; put(3) = 3; put(999) = 4; hand: 2 3 999 1000
            outside 2..1000: put(#)
            """);
        StringBuilder runs = new StringBuilder();
        for (int[] coming : orders(new int[] {2, 3, 500, 999, 1000}, 0)) {
            runs.append("new\n");
            for (int i = 0; i < coming.length; i++) {
                runs.append("put(" + coming[i] + ") = " + (i + 1) + "\n");
            }
            runs.append("hand: 2 3 500 999 1000\n");
        }
        sentence("the least first, in whatever order they come", runs.toString());
    }

    /** All orders in which these can come. */
    private static List<int[]> orders(int[] numbers, int from) {
        List<int[]> all = new ArrayList<>();
        if (from == numbers.length) {
            all.add(numbers);
        }
        for (int i = from; i < numbers.length; i++) {
            int[] swapped = numbers.clone();
            swapped[from] = numbers[i];
            swapped[i] = numbers[from];
            all.addAll(orders(swapped, from + 1));
        }
        return all;
    }

    private static void splittingAndJoining() {
        section = "Terms: SPLITTING n, JOINING n and m";
        StringBuilder splitting = new StringBuilder();
        StringBuilder joining = new StringBuilder();
        for (int n = 2; n <= 31; n++) {
            int m = n + 1;
            int product = n * m;
            splitting.append("put(" + n + ") = 1; split(" + n + ") = " + product + "; hand: " + m + " " + product + "\n"
                + "sum(0) = 1; sum(1) = " + n + "; clear() = 2\n");
            joining.append("put(" + m + ") = 1; put(" + product + ") = 2; join(" + m + ", " + product + ") = " + n + "\n"
                + "hand: " + n + "; clear() = 1\n");
        }
        sentence("n goes; n and 1, and n times (n and 1) come: 2 to 31", splitting.toString());
        sentence("both go, and the whole number comes one over which is the SUM of both: 2 to 31", joining.toString());
        sentence("JOINING the greatest", """
            put(600) = 1; put(1000) = 2; put(2) = 3; join(1000, 600) = 375; hand: 2 375
            new
            put(600) = 1; put(1000) = 2; put(999) = 3; join(600, 1000) = 375; hand: 375 999
            """);
    }

    private static void pairsOfFractions() {
        section = "Terms: PAIRS of a FRACTION";
        sentence("from 1 on", """
            pairs(2, 1) = 1; pair(2, 1, 0, 0) = 1; pair(2, 1, 0, 1) = 1
            pairs(3, 2) = 1; pair(3, 2, 0, 0) = 1; pair(3, 2, 0, 1) = 2
            pairs(1000, 999) = 1; pair(1000, 999, 0, 0) = 1; pairs(3, 1) = 0
            """);
        sentence("x at most y", """
            pairs(1, 1) = 1; pair(1, 1, 0, 0) = 2; pair(1, 1, 0, 1) = 2; pair(1, 1, 1, 0) = NONE
            pairs(1, 2) = 2; pair(1, 2, 0, 0) = 3; pair(1, 2, 0, 1) = 6; pair(1, 2, 1, 0) = 4; pair(1, 2, 1, 1) = 4
            pair(1, 2, 2, 0) = NONE
            """);
        sentence("IN ORDER by x", """
            pair(1, 6, 0, 0) = 7; pair(1, 6, 1, 0) = 8; pair(1, 6, 2, 0) = 9; pair(1, 6, 3, 0) = 10; pair(1, 6, 4, 0) = 12
            pair(1, 6, 0, 1) = 42; pair(1, 6, 1, 1) = 24; pair(1, 6, 2, 1) = 18; pair(1, 6, 3, 1) = 15; pair(1, 6, 4, 1) = 12
            """);
        sentence("without any bound", """
            pair(1, 1000, 0, 0) = 1001; pair(1, 1000, 0, 1) = 1001000; pair(1, 999, 0, 1) = 999000
            pair(1, 1000, 24, 0) = 2000; pair(1, 1000, 24, 1) = 2000; pair(1, 997, 1, 0) = 1994; pairs(1, 997) = 2
            """);
    }

    private static void triplesOfFractions() {
        section = "Terms: TRIPLES of a FRACTION";
        sentence("from 1 on", """
            triples(3, 1) = 1; triple(3, 1, 0, 0) = 1; triple(3, 1, 0, 1) = 1; triple(3, 1, 0, 2) = 1
            triples(2, 1) = 1; triple(2, 1, 0, 0) = 1; triple(2, 1, 0, 1) = 2; triple(2, 1, 0, 2) = 2
            triples(5, 2) = 1; triple(5, 2, 0, 0) = 1; triple(5, 2, 0, 1) = 1; triple(5, 2, 0, 2) = 2
            triples(4, 1) = 0; triples(121, 40) = 0
            """);
        sentence("x at most y at most z", """
            triples(1, 1) = 3; triple(1, 1, 0, 0) = 2; triple(1, 1, 0, 1) = 3; triple(1, 1, 0, 2) = 6
            triple(1, 1, 1, 0) = 2; triple(1, 1, 1, 1) = 4; triple(1, 1, 1, 2) = 4
            triple(1, 1, 2, 0) = 3; triple(1, 1, 2, 1) = 3; triple(1, 1, 2, 2) = 3; triple(1, 1, 3, 0) = NONE
            """);
        sentence("IN ORDER by x, then y", """
            triples(1, 2) = 10; triple(1, 2, 0, 1) = 7; triple(1, 2, 1, 1) = 8; triple(1, 2, 4, 0) = 3; triple(1, 2, 4, 1) = 12
            triple(1, 2, 5, 0) = 4; triple(1, 2, 5, 1) = 5; triple(1, 2, 7, 0) = 4; triple(1, 2, 7, 1) = 8
            triple(1, 2, 8, 0) = 5; triple(1, 2, 8, 2) = 10; triple(1, 2, 9, 0) = 6; triple(1, 2, 10, 0) = NONE
            """);
        sentence("without any bound", """
            triples(1, 40) = 604; triple(1, 40, 0, 0) = 41; triple(1, 40, 0, 1) = 1641; triple(1, 40, 0, 2) = 2691240
            triple(1, 40, 603, 0) = 120; triple(1, 40, 603, 2) = 120; triple(1, 40, 604, 0) = NONE; triples(1, 39) = 378
            """);
    }

    private static void refusals() {
        section = "Terms: Refusals; they change nothing";
        sentence("UNKNOWN (a number names nothing)", """
            rich
            left(5, 0) = UNKNOWN; drop(5) = UNKNOWN; split(5) = UNKNOWN; join(5, 7) = UNKNOWN; join(4, 5) = UNKNOWN
            hand: 4 9; digest: 3 120 4 9 5 29 1233 3039345 1 1 1
            """);
        sentence("OUTSIDE (it is not as told)", """
            rich
            bar(1, true) = OUTSIDE; isOf(1, 0) = OUTSIDE; fewest(0, 1, 0, 2) = OUTSIDE; ways(0, 1, 1, 0, 2) = OUTSIDE
            take(0, 1, 1, 0, 2, 0) = OUTSIDE; smallest(0, 1, 1, 0, 2) = OUTSIDE; greedy(0, 1) = OUTSIDE; left(0, 2) = OUTSIDE
            put(1) = OUTSIDE; sum(2) = OUTSIDE; join(4, 9) = OUTSIDE; against(0, 1) = OUTSIDE; pairs(0, 1) = OUTSIDE
            pair(0, 1, 0, 0) = OUTSIDE; triples(0, 1) = OUTSIDE; triple(0, 1, 0, 0) = OUTSIDE; count(5) = OUTSIDE
            hand: 4 9; digest: 3 120 4 9 5 29 1233 3039345 1 1 1
            put(32) = 3; split(32) = OUTSIDE; hand: 4 9 32
            """);
        sentence("STATE (as told)", """
            rich
            put(20) = 3; put(5) = 4; put(4) = STATE; split(4) = STATE; join(5, 20) = STATE
            hand: 4 5 9 20; digest: 3 120 4 5 9 20 5 29 1233 3039345 1 1 1
            """);
        sentence("FULL", """
            rich
            put(20) = 3; put(5) = 4; put(2) = 5; 59 x ways(1, 2, 1, 0, 2) = 1; 39 x triples(1, 1) = 3
            put(7) = FULL; split(9) = FULL; fewest(1, 2, 0, 2) = FULL; ways(1, 2, 1, 0, 2) = FULL
            take(1, 2, 1, 0, 2, 0) = FULL; smallest(1, 2, 1, 0, 2) = FULL; triples(1, 1) = FULL; triple(1, 1, 0, 0) = FULL
            hand: 2 4 5 9 20; digest: 3 120 2 4 5 9 20 5 29 1233 3039345 1 60 40
            """);
    }

    // ---- the sentences ahead of the calls

    private static void rowRefusals() {
        section = "---- rows: OUTSIDE: a, b, sort, N (k 1 to 5)";
        sentence("several at once", """
            rich
            fewest(0, 0, 6, 1) = OUTSIDE; ways(1001, 0, 6, -1, 121) = OUTSIDE
            take(0, 1001, 0, 6, 1, -1) = OUTSIDE; smallest(0, 0, 0, 0, 0) = OUTSIDE
            """);
        sentence("ahead of FULL: fewest", """
            rich
            59 x ways(1, 2, 1, 0, 2) = 1; fewest(1, 2, 0, 2) = FULL
            fewest(0, 2, 0, 2) = OUTSIDE; fewest(1001, 2, 0, 2) = OUTSIDE; fewest(1, 0, 0, 2) = OUTSIDE
            fewest(1, 1001, 0, 2) = OUTSIDE; fewest(1, 2, -1, 2) = OUTSIDE; fewest(1, 2, 6, 2) = OUTSIDE
            fewest(1, 2, 0, 1) = OUTSIDE; fewest(1, 2, 0, 121) = OUTSIDE
            """);
        for (String[] call : new String[][] {{"ways", ""}, {"take", ", 0"}, {"take", ", -1"}, {"smallest", ""}}) {
            sentence("ahead of FULL: " + call[0], """
                rich
                59 x ways(1, 2, 1, 0, 2) = 1; @(1, 2, 1, 0, 2#) = FULL
                @(0, 2, 1, 0, 2#) = OUTSIDE; @(1001, 2, 1, 0, 2#) = OUTSIDE; @(1, 0, 1, 0, 2#) = OUTSIDE
                @(1, 1001, 1, 0, 2#) = OUTSIDE; @(1, 2, 0, 0, 2#) = OUTSIDE; @(1, 2, 6, 0, 2#) = OUTSIDE
                @(1, 2, 1, -1, 2#) = OUTSIDE; @(1, 2, 1, 6, 2#) = OUTSIDE; @(1, 2, 1, 0, 1#) = OUTSIDE
                @(1, 2, 1, 0, 121#) = OUTSIDE
                """.replace("@", call[0]).replace("#", call[1]));
        }
    }

    private static void rowsSought() {
        section = "---- rows: FULL: rows were sought 60 times (fewest(), ways(), take(), smallest() that were no refusal)";
        String full = """
            count(2) = 60; fewest(1, 3, 0, 3) = FULL; ways(1, 3, 1, 0, 3) = FULL
            take(1, 3, 1, 0, 3, 0) = FULL; smallest(1, 3, 1, 0, 3) = FULL; count(2) = 60
            """;
        for (String search : new String[] {
            "fewest(1, 2, 0, 2) = 1", "ways(1, 2, 1, 0, 2) = 1", "take(1, 2, 1, 0, 2, 0) = 1", "smallest(1, 2, 1, 0, 2) = 2",
        }) {
            sentence("all by " + search, "put(9) = 1; 59 x " + search + "; count(2) = 59; " + search + "\n" + full);
            sentence("the last by " + search, "59 x fewest(1, 1, 0, 2) = NONE; count(2) = 59; " + search + "\n" + full);
        }
        sentence("by all four together", """
            15 x fewest(1, 2, 0, 2) = 1; 15 x ways(1, 2, 1, 0, 2) = 1; 15 x take(1, 2, 1, 0, 2, 0) = 1
            14 x smallest(1, 2, 1, 0, 2) = 2; count(2) = 59; smallest(1, 2, 1, 0, 2) = 2
            """ + full);
        sentence("by those that find nothing", """
            put(9) = 1; 15 x fewest(1, 1, 0, 2) = NONE; 15 x ways(1, 1, 1, 0, 2) = 0; 15 x smallest(1, 1, 1, 0, 2) = NONE
            5 x take(1, 1, 1, 0, 2, 0) = NONE; 5 x take(1, 2, 1, 0, 2, 1) = NONE; 5 x take(1, 2, 1, 0, 2, -1) = NONE
            hand: 9
            """ + full);
        sentence("that were no refusal", """
            59 x ways(1, 2, 1, 0, 2) = 1; 5 x fewest(0, 2, 0, 2) = OUTSIDE; 5 x ways(1, 2, 6, 0, 2) = OUTSIDE
            5 x take(1, 2, 1, 6, 2, 0) = OUTSIDE; 5 x smallest(1, 2, 1, 0, 121) = OUTSIDE; count(2) = 59
            fewest(1, 2, 0, 2) = 1
            """ + full);
        sentence("by no other call, and none of those is FULL", """
            60 x ways(1, 2, 1, 0, 2) = 1; bar(5, true) = 0; isOf(5, 0) = 0; isOf(7, 0) = 1; greedy(1, 1) = 3; step(0) = 2
            left(0, 0) = 1; done() = 1; put(2) = 1; held(0) = 2; sum(1) = 2; split(2) = 6; join(3, 6) = 2; against(1, 2) = 0
            drop(2) = 0; clear() = 0; pairs(1, 2) = 2; pair(1, 2, 0, 0) = 3; triples(1, 1) = 3; triple(1, 1, 0, 0) = 2
            """ + full);
    }

    // ---- the promises

    private static void newObject() {
        section = "Promise 1, a new object";
        sentence("Nothing is BARRED", """
            count(1) = 0
            each 2..120: isOf(#, 0) = 1
            """);
        sentence("Nothing is GREEDY", """
            count(4) = 0; step(0) = NONE; done() = 0; left(0, 0) = 0; left(0, 1) = 1; left(1, 0) = UNKNOWN
            """);
        sentence("THE HAND is empty", "hand:; clear() = 0");
        sentence("nothing is sought or done", "count(2) = 0; count(3) = 0; digest() = 4677187");
    }

    private static void bar() {
        section = "Promise 2, bar";
        sentence("1 if it was, else 0", """
            bar(7, false) = 0; count(1) = 0; bar(7, true) = 0; count(1) = 1; bar(7, true) = 1; count(1) = 1
            bar(7, false) = 1; count(1) = 0; bar(7, false) = 0; count(1) = 0; isOf(7, 0) = 1
            """);
        sentence("A NUMBER is BARRED, or not: the least", """
            bar(2, true) = 0; bar(2, true) = 1; isOf(2, 0) = 0; bar(2, false) = 1; bar(2, false) = 0; isOf(2, 0) = 1
            """);
        sentence("A NUMBER is BARRED, or not: the greatest", """
            bar(120, true) = 0; bar(120, true) = 1; isOf(120, 0) = 0; bar(120, false) = 1; bar(120, false) = 0; isOf(120, 0) = 1
            """);
        sentence("as many as there may be", """
            each 2..120: bar(#, true) = 0
            count(1) = 119
            each 2..120: bar(#, true) = 1
            count(1) = 119
            """);
        sentence("OUTSIDE", """
            outside 2..120: bar(#, true)
            outside 2..120: bar(#, false)
            """);
    }

    private static void isOf() {
        section = "Promise 3, isOf";
        sentence("a NUMBER (2 to 120): 2", """
            isOf(2, 0) = 1; isOf(2, 1) = 0; isOf(2, 2) = 1; isOf(2, 3) = 1; isOf(2, 4) = 0; isOf(2, 5) = 0
            """);
        sentence("a NUMBER (2 to 120): 120", """
            isOf(120, 0) = 1; isOf(120, 1) = 0; isOf(120, 2) = 1; isOf(120, 3) = 0; isOf(120, 4) = 1; isOf(120, 5) = 0
            """);
        sentence("OUTSIDE", """
            outside 2..120: isOf(#, 0)
            outside 2..120: isOf(#, 5)
            outside 0..5: isOf(2, #)
            outside 0..5: isOf(120, #)
            rich; isOf(1, 6) = OUTSIDE; isOf(121, -1) = OUTSIDE
            """);
        sentence("OUTSIDE, of what is BARRED", "bar(3, true) = 0; isOf(3, 6) = OUTSIDE; isOf(3, -1) = OUTSIDE; isOf(3, 1) = 0");
    }

    private static void fewest() {
        section = "Promise 4, fewest";
        sentence("The fewest NUMBERS of any ROW: 1 to 5", """
            fewest(1, 2, 0, 120) = 1; fewest(5, 6, 0, 120) = 2; fewest(1, 1, 0, 120) = 3; fewest(1, 1, 2, 120) = 4
            fewest(29, 20, 0, 120) = 5; hand:; count(2) = 5
            """);
        sentence("NONE: there is no ROW", """
            put(9) = 1; fewest(1, 1, 0, 5) = NONE; fewest(1, 1, 1, 120) = NONE; fewest(1, 1000, 0, 120) = NONE
            fewest(1000, 1, 0, 120) = NONE; fewest(1, 2, 1, 2) = NONE; fewest(35, 24, 0, 120) = NONE; hand: 9; count(2) = 6
            """);
        sentence("OUTSIDE", """
            rich
            fewest(0, 1, 0, 120) = OUTSIDE; fewest(1, 0, 0, 120) = OUTSIDE; fewest(1, 1, 6, 120) = OUTSIDE
            fewest(1, 1, -1, 120) = OUTSIDE; fewest(1, 1, 0, 121) = OUTSIDE; fewest(1, 1, 0, 1) = OUTSIDE
            """);
        sentence("FULL", "rich; 58 x ways(1, 2, 1, 0, 2) = 1; fewest(1, 2, 0, 2) = 1; fewest(1, 2, 0, 2) = FULL");
    }

    private static void ways() {
        section = "Promise 5, ways";
        sentence("How many ROWS of k NUMBERS: none", """
            put(9) = 1; ways(1, 1, 1, 0, 120) = 0; ways(1, 1, 2, 0, 120) = 0; ways(1, 1, 3, 0, 5) = 0; ways(1, 1, 5, 5, 120) = 0
            ways(1, 1, 5, 0, 5) = 0; ways(1, 1, 5, 0, 2) = 0; hand: 9; count(2) = 6
            """);
        sentence("How many ROWS of k NUMBERS: of k and no other", """
            ways(1, 2, 1, 0, 120) = 1; ways(1, 2, 2, 0, 120) = 1; ways(1, 2, 3, 0, 120) = 6; ways(1, 1, 3, 0, 120) = 1
            ways(1, 1, 4, 0, 120) = 6; ways(1, 1, 5, 0, 120) = 47; ways(1, 8, 5, 0, 120) = 425; hand:
            """);
        sentence("OUTSIDE", """
            rich
            ways(0, 1, 1, 0, 120) = OUTSIDE; ways(1, 0, 1, 0, 120) = OUTSIDE; ways(1, 1, 0, 0, 120) = OUTSIDE
            ways(1, 1, 6, 0, 120) = OUTSIDE; ways(1, 1, 1, 6, 120) = OUTSIDE; ways(1, 1, 1, -1, 120) = OUTSIDE
            ways(1, 1, 1, 0, 121) = OUTSIDE; ways(1, 1, 1, 0, 1) = OUTSIDE
            """);
        sentence("FULL", "rich; 59 x ways(1, 1, 1, 0, 2) = 0; ways(1, 2, 1, 0, 2) = FULL");
    }

    private static void take() {
        section = "Promise 6, take";
        sentence("ROW i (from 0)", """
            take(1, 2, 1, 0, 120, 0) = 1; hand: 2
            take(1, 1, 5, 0, 120, 0) = 1; hand: 2 3 7 70 105
            take(1, 1, 5, 0, 120, 1) = 1; hand: 2 3 7 78 91
            take(1, 1, 5, 0, 120, 46) = 1; hand: 3 4 5 6 20
            """);
        sentence("NONE: there is none", """
            put(9) = 1; take(1, 2, 1, 0, 120, 1) = NONE; take(1, 1, 5, 0, 120, 47) = NONE; take(1, 1, 3, 0, 120, -1) = NONE
            take(1, 1, 3, 0, 120, MIN) = NONE; take(1, 1, 3, 0, 120, MAX) = NONE; take(1, 1, 3, 0, 5, 0) = NONE
            hand: 9; count(2) = 6
            """);
        sentence("THE HAND becomes ROW i, whatever it was", """
            put(7) = 1; put(8) = 2; put(10) = 3; put(900) = 4; put(1000) = 5; take(1, 2, 1, 0, 2, 0) = 1; hand: 2
            take(29, 20, 5, 0, 6, 0) = 1; hand: 2 3 4 5 6
            take(1, 1, 3, 0, 6, 0) = 1; hand: 2 3 6
            clear() = 3; take(5, 6, 2, 0, 6, 0) = 1; hand: 2 3
            take(5, 6, 2, 0, 6, 0) = 1; hand: 2 3
            """);
        sentence("OUTSIDE", """
            rich
            take(0, 1, 1, 0, 120, 0) = OUTSIDE; take(1, 0, 1, 0, 120, 0) = OUTSIDE; take(1, 2, 0, 0, 120, 0) = OUTSIDE
            take(1, 2, 6, 0, 120, 0) = OUTSIDE; take(1, 2, 1, 6, 120, 0) = OUTSIDE; take(1, 2, 1, -1, 120, 0) = OUTSIDE
            take(1, 2, 1, 0, 121, 0) = OUTSIDE; take(1, 2, 1, 0, 1, 0) = OUTSIDE; take(1, 2, 1, 0, 121, -1) = OUTSIDE
            hand: 4 9
            """);
        sentence("FULL", """
            rich
            59 x take(1, 1, 1, 0, 2, 0) = NONE; take(1, 2, 1, 0, 2, 0) = FULL; take(1, 2, 1, 0, 2, -1) = FULL; hand: 4 9
            """);
    }

    private static void smallest() {
        section = "Promise 7, smallest";
        sentence("THE HAND becomes THE SMALLEST: its greatest NUMBER", """
            put(7) = 1; put(8) = 2; put(10) = 3; put(900) = 4; put(1000) = 5; smallest(1, 2, 1, 0, 2) = 2; hand: 2
            smallest(1, 120, 1, 0, 120) = 120; hand: 120
            smallest(29, 20, 5, 0, 6) = 6; hand: 2 3 4 5 6
            smallest(1, 1, 3, 0, 6) = 6; hand: 2 3 6
            clear() = 3; smallest(5, 6, 2, 0, 120) = 3; hand: 2 3
            """);
        sentence("NONE: there is none", """
            put(9) = 1; smallest(1, 1, 3, 0, 5) = NONE; smallest(1, 1, 1, 0, 120) = NONE; smallest(1, 2, 1, 1, 120) = NONE
            smallest(1000, 1, 5, 0, 120) = NONE; hand: 9; count(2) = 4
            """);
        sentence("OUTSIDE", """
            rich
            smallest(0, 1, 1, 0, 120) = OUTSIDE; smallest(1, 0, 1, 0, 120) = OUTSIDE; smallest(1, 2, 0, 0, 120) = OUTSIDE
            smallest(1, 2, 6, 0, 120) = OUTSIDE; smallest(1, 2, 1, 6, 120) = OUTSIDE; smallest(1, 2, 1, -1, 120) = OUTSIDE
            smallest(1, 2, 1, 0, 121) = OUTSIDE; smallest(1, 2, 1, 0, 1) = OUTSIDE; hand: 4 9
            """);
        sentence("FULL", "rich; 59 x smallest(1, 1, 1, 0, 2) = NONE; smallest(1, 2, 1, 0, 2) = FULL; hand: 4 9");
    }

    private static void greedy() {
        section = "Promise 8, greedy";
        sentence("how many NUMBERS have come", """
            greedy(1, 2) = 1; count(4) = 1; greedy(605, 161) = 35; count(4) = 35; greedy(1, 1000) = 1; count(4) = 1
            """);
        sentence("OUTSIDE", """
            outside 1..1000: greedy(#, 1)
            outside 1..1000: greedy(1, #)
            rich; greedy(0, 0) = OUTSIDE; greedy(1001, 1001) = OUTSIDE
            step(0) = 5; step(3) = 3039345; done() = 1; left(1, 0) = 3; left(1, 1) = 85
            """);
    }

    private static void step() {
        section = "Promise 9, step";
        sentence("The i-th of them", "greedy(4, 17) = 4; step(0) = 5; step(1) = 29; step(2) = 1233; step(3) = 3039345");
        sentence("NONE", """
            greedy(4, 17) = 4; step(4) = NONE; step(-1) = NONE; step(39) = NONE; step(40) = NONE; step(41) = NONE
            step(MIN) = NONE; step(MAX) = NONE
            """);
        sentence("NONE: ahead of any greedy()", """
            step(0) = NONE; step(-1) = NONE; step(1) = NONE; step(39) = NONE; step(40) = NONE; step(MAX) = NONE
            """);
        sentence("NONE: what an earlier, longer one had", """
            greedy(605, 161) = 35; step(34) = 36; step(35) = NONE
            greedy(1, 7) = 1; step(0) = 7; step(1) = NONE; step(34) = NONE
            """);
    }

    private static void left() {
        section = "Promise 10, left";
        sentence("behind the i-th step (i 0: at first), in lowest terms", """
            greedy(10, 242) = 2; left(0, 0) = 5; left(0, 1) = 121; left(1, 0) = 4; left(1, 1) = 3025
            left(2, 0) = 3; left(2, 1) = 2289925
            greedy(1000, 1000) = 3; left(0, 0) = 1; left(0, 1) = 1; left(2, 0) = 1; left(2, 1) = 6
            """);
        sentence("0 by 1: nothing", """
            greedy(1, 1) = 3; left(3, 0) = 0; left(3, 1) = 1; greedy(1, 1000) = 1; left(1, 0) = 0; left(1, 1) = 1
            """);
        sentence("also ahead of any greedy()", """
            left(0, 0) = 0; left(0, 1) = 1; left(1, 0) = UNKNOWN; left(-1, 0) = UNKNOWN; left(0, 2) = OUTSIDE
            greedy(0, 1) = OUTSIDE; left(0, 0) = 0; left(0, 1) = 1; left(1, 1) = UNKNOWN
            """);
        sentence("UNKNOWN (as -101): i is not 0 to how many came", """
            greedy(1, 1) = 3; left(3, 0) = 0; left(4, 0) = -101; left(4, 1) = -101; left(-1, 0) = -101; left(-1, 1) = -101
            left(MIN, 0) = -101; left(MAX, 1) = -101; left(40, 0) = -101; left(41, 0) = -101; left(42, 0) = -101
            greedy(605, 161) = 35; left(35, 1) = 570765031200; left(36, 1) = UNKNOWN
            greedy(1, 7) = 1; left(1, 1) = 1; left(2, 1) = UNKNOWN; left(35, 1) = UNKNOWN
            """);
        sentence("OUTSIDE: what", """
            greedy(1, 1) = 3; left(1, 0) = 1; left(1, 1) = 2; left(1, 2) = -102; left(1, -1) = -102
            left(0, 2) = OUTSIDE; left(3, -1) = OUTSIDE; left(1, MIN) = OUTSIDE; left(1, MAX) = OUTSIDE
            """);
        sentence("UNKNOWN ahead of OUTSIDE", """
            left(1, 2) = UNKNOWN; left(-1, -1) = UNKNOWN
            greedy(1, 1) = 3; left(4, 2) = UNKNOWN; left(-1, -1) = UNKNOWN; left(4, -1) = UNKNOWN; left(-1, 2) = UNKNOWN
            """);
    }

    private static void done() {
        section = "Promise 11, done";
        sentence("0: there was none", "done() = 0; greedy(0, 1) = OUTSIDE; greedy(1, 1001) = OUTSIDE; done() = 0");
        sentence("1: DONE", "greedy(1, 2) = 1; done() = 1; greedy(804, 845) = 6; done() = 1");
        sentence("0: SPENT", "greedy(5, 121) = 2; done() = 0; greedy(605, 161) = 35; done() = 0");
        sentence("the latest", """
            greedy(1, 1) = 3; greedy(5, 121) = 2; done() = 0; greedy(1, 1) = 3; done() = 1
            greedy(1001, 1) = OUTSIDE; done() = 1; greedy(5, 121) = 2; greedy(1, 0) = OUTSIDE; done() = 0
            """);
    }

    private static void put() {
        section = "Promise 12, put";
        sentence("A NUMBER comes: how many there are", """
            put(6) = 1; put(1000) = 2; put(2) = 3; put(7) = 4; put(3) = 5; hand: 2 3 6 7 1000
            """);
        sentence("OUTSIDE: it is not 2 to 1000", """
            put(2) = 1; put(1) = OUTSIDE; put(1000) = 2; put(1001) = OUTSIDE; hand: 2 1000
            outside 2..1000: put(#)
            """);
        sentence("STATE: it is there", """
            put(2) = 1; put(1000) = 2; put(500) = 3; put(2) = STATE; put(500) = STATE; put(1000) = STATE; hand: 2 500 1000
            drop(500) = 2; put(500) = 3
            """);
        sentence("FULL: there are 5", """
            put(2) = 1; put(3) = 2; put(4) = 3; put(5) = 4; put(6) = 5; put(7) = FULL; put(1000) = FULL; hand: 2 3 4 5 6
            drop(6) = 4; put(7) = 5; put(6) = FULL; hand: 2 3 4 5 7
            """);
        sentence("OUTSIDE ahead of FULL, STATE ahead of FULL", """
            put(2) = 1; put(3) = 2; put(4) = 3; put(5) = 4; put(1000) = 5; put(1) = OUTSIDE; put(1001) = OUTSIDE
            put(2) = STATE; put(4) = STATE; put(1000) = STATE; put(6) = FULL
            """);
    }

    private static void drop() {
        section = "Promise 13, drop";
        sentence("A NUMBER goes: how many are left", """
            put(2) = 1; put(3) = 2; put(5) = 3; put(999) = 4; put(1000) = 5
            drop(5) = 4; hand: 2 3 999 1000; drop(1000) = 3; hand: 2 3 999; drop(2) = 2; hand: 3 999
            drop(3) = 1; hand: 999; drop(999) = 0; hand:
            """);
        sentence("UNKNOWN: it is not there", """
            put(2) = 1; put(1000) = 2; drop(3) = UNKNOWN; drop(1) = UNKNOWN; drop(0) = UNKNOWN; drop(-1) = UNKNOWN
            drop(1001) = UNKNOWN; drop(MIN) = UNKNOWN; drop(MAX) = UNKNOWN; hand: 2 1000
            drop(2) = 1; drop(2) = UNKNOWN; hand: 1000
            """);
        sentence("UNKNOWN: nothing is there", """
            drop(2) = UNKNOWN; drop(0) = UNKNOWN; drop(1000) = UNKNOWN
            put(2) = 1; drop(2) = 0; drop(2) = UNKNOWN; drop(0) = UNKNOWN; hand:
            """);
    }

    private static void clear() {
        section = "Promise 14, clear";
        sentence("how many there were: 0 to 5", """
            clear() = 0; put(2) = 1; clear() = 1; clear() = 0; put(2) = 1; put(3) = 2; clear() = 2
            put(2) = 1; put(3) = 2; put(5) = 3; put(7) = 4; put(1000) = 5; clear() = 5; clear() = 0
            """);
        sentence("THE HAND is empty", """
            put(2) = 1; put(3) = 2; put(6) = 3; put(7) = 4; put(1000) = 5; clear() = 5; hand:; sum(0) = 0; sum(1) = 1
            drop(2) = UNKNOWN; split(7) = UNKNOWN; join(3, 6) = UNKNOWN; put(3) = 1; hand: 3
            """);
    }

    private static void held() {
        section = "Promise 15, held";
        sentence("The i-th NUMBER", """
            put(9) = 1; put(4) = 2; put(1000) = 3; put(2) = 4; put(5) = 5
            held(0) = 2; held(1) = 4; held(2) = 5; held(3) = 9; held(4) = 1000
            """);
        sentence("NONE", """
            put(9) = 1; put(4) = 2; held(1) = 9; held(2) = NONE; held(-1) = NONE; held(4) = NONE; held(5) = NONE
            held(MIN) = NONE; held(MAX) = NONE
            put(1000) = 3; put(2) = 4; put(5) = 5; held(4) = 1000; held(5) = NONE; held(6) = NONE; held(-1) = NONE
            drop(2) = 4; held(4) = NONE
            """);
        sentence("NONE: nothing is there", """
            held(0) = NONE; held(-1) = NONE; held(1) = NONE; put(2) = 1; drop(2) = 0; held(0) = NONE
            """);
    }

    private static void sum() {
        section = "Promise 16, sum";
        sentence("0 by 1 without any", """
            sum(0) = 0; sum(1) = 1; put(2) = 1; drop(2) = 0; sum(0) = 0; sum(1) = 1
            put(7) = 1; clear() = 1; sum(0) = 0; sum(1) = 1
            """);
        sentence("in lowest terms", """
            put(3) = 1; put(6) = 2; sum(0) = 1; sum(1) = 2; put(2) = 3; sum(0) = 1; sum(1) = 1
            put(4) = 4; sum(0) = 5; sum(1) = 4; put(12) = 5; sum(0) = 4; sum(1) = 3
            """);
        // No two of these have a divisor in common.
        sentence("as many and as great as there may be", """
            put(1000) = 1; sum(0) = 1; sum(1) = 1000; put(999) = 2; sum(0) = 1999; sum(1) = 999000
            put(997) = 3; put(991) = 4; put(989) = 5; sum(0) = 4904545088297; sum(1) = 976181544297000
            """);
        sentence("OUTSIDE (as -102)", """
            sum(2) = -102; sum(-1) = -102; put(2) = 1; sum(0) = 1; sum(1) = 2; sum(2) = OUTSIDE; sum(-1) = OUTSIDE
            sum(MIN) = OUTSIDE; sum(MAX) = OUTSIDE
            """);
    }

    private static void split() {
        section = "Promise 17, split";
        sentence("SPLITTING n: n times (n and 1)", """
            put(2) = 1; split(2) = 6; hand: 3 6; put(31) = 3; split(31) = 992; hand: 3 6 32 992
            """);
        sentence("UNKNOWN: it is not there", """
            split(2) = UNKNOWN; put(2) = 1; put(30) = 2; split(3) = UNKNOWN; split(31) = UNKNOWN; split(0) = UNKNOWN
            split(-1) = UNKNOWN; split(1) = UNKNOWN; split(1001) = UNKNOWN; split(MIN) = UNKNOWN; split(MAX) = UNKNOWN
            hand: 2 30
            """);
        sentence("OUTSIDE: that is above 1000", """
            put(31) = 1; put(32) = 2; put(999) = 3; put(1000) = 4
            split(32) = OUTSIDE; split(999) = OUTSIDE; split(1000) = OUTSIDE; hand: 31 32 999 1000
            drop(32) = 3; split(31) = 992; hand: 32 992 999 1000
            """);
        sentence("STATE: one that would come is there: n and 1", """
            put(5) = 1; put(6) = 2; split(5) = STATE; hand: 5 6
            put(31) = 3; put(32) = 4; split(31) = STATE; hand: 5 6 31 32
            """);
        sentence("STATE: one that would come is there: n times (n and 1)", """
            put(5) = 1; put(30) = 2; split(5) = STATE; hand: 5 30
            put(31) = 3; put(992) = 4; split(31) = STATE; hand: 5 30 31 992
            """);
        sentence("STATE: one that would come is there: both", """
            put(5) = 1; put(6) = 2; put(30) = 3; split(5) = STATE; hand: 5 6 30
            """);
        sentence("FULL: there are 5", """
            put(5) = 1; put(7) = 2; put(8) = 3; put(1000) = 4; split(5) = 30; hand: 6 7 8 30 1000
            split(8) = FULL; split(30) = FULL; hand: 6 7 8 30 1000
            """);
    }

    private static void splitRefusals() {
        section = "Promise 17, split: of several the first as told";
        sentence("UNKNOWN ahead of OUTSIDE", "split(32) = UNKNOWN; put(2) = 1; split(32) = UNKNOWN; split(1000) = UNKNOWN");
        sentence("UNKNOWN ahead of STATE", "put(6) = 1; put(30) = 2; split(5) = UNKNOWN; hand: 6 30");
        sentence("UNKNOWN ahead of FULL", """
            put(2) = 1; put(3) = 2; put(6) = 3; put(32) = 4; put(33) = 5
            split(4) = UNKNOWN; split(5) = UNKNOWN; split(34) = UNKNOWN; hand: 2 3 6 32 33
            """);
        sentence("OUTSIDE ahead of STATE", "put(32) = 1; put(33) = 2; split(32) = OUTSIDE; hand: 32 33");
        sentence("OUTSIDE ahead of FULL", """
            put(2) = 1; put(3) = 2; put(6) = 3; put(32) = 4; put(1000) = 5; split(32) = OUTSIDE; split(1000) = OUTSIDE
            drop(6) = 4; put(33) = 5; split(32) = OUTSIDE
            """);
        sentence("STATE ahead of FULL", """
            put(2) = 1; put(3) = 2; put(6) = 3; put(7) = 4; put(20) = 5; split(2) = STATE; split(6) = STATE; split(3) = FULL
            drop(3) = 4; put(4) = 5; split(2) = STATE; split(4) = STATE; hand: 2 4 6 7 20
            """);
    }

    private static void join() {
        section = "Promise 18, join";
        sentence("JOINING n and m: what comes", """
            put(3) = 1; put(6) = 2; join(3, 6) = 2; hand: 2
            new
            put(3) = 1; put(6) = 2; join(6, 3) = 2; hand: 2
            new
            put(20) = 1; put(30) = 2; put(7) = 3; put(8) = 4; put(9) = 5; join(20, 30) = 12; hand: 7 8 9 12
            """);
        sentence("UNKNOWN: n, m", """
            join(3, 6) = UNKNOWN; put(3) = 1; join(3, 6) = UNKNOWN; join(6, 3) = UNKNOWN; join(12, 6) = UNKNOWN
            join(0, 3) = UNKNOWN; join(3, 0) = UNKNOWN; join(0, 0) = UNKNOWN; join(-3, 3) = UNKNOWN; join(3, -3) = UNKNOWN
            join(1001, 3) = UNKNOWN; join(MIN, 3) = UNKNOWN; join(3, MAX) = UNKNOWN; join(MIN, MIN) = UNKNOWN; hand: 3
            """);
        sentence("OUTSIDE: they are alike", """
            put(2) = 1; put(6) = 2; put(7) = 3; put(1000) = 4; join(2, 2) = OUTSIDE; join(6, 6) = OUTSIDE
            join(7, 7) = OUTSIDE; join(1000, 1000) = OUTSIDE; hand: 2 6 7 1000
            """);
        sentence("OUTSIDE: it is no whole number", """
            put(2) = 1; put(3) = 2; put(7) = 3; put(999) = 4; put(1000) = 5; join(2, 3) = OUTSIDE; join(7, 2) = OUTSIDE
            join(999, 1000) = OUTSIDE; join(1000, 2) = OUTSIDE; hand: 2 3 7 999 1000
            """);
        // Only 2 and 2 would make 1; the least that comes of unlike ones is 2.
        sentence("OUTSIDE: it is below 2", """
            put(2) = 1; join(2, 2) = OUTSIDE; hand: 2
            put(3) = 2; put(6) = 3; drop(2) = 2; join(3, 6) = 2; hand: 2
            """);
        sentence("STATE: it is there (and neither of both)", """
            put(2) = 1; put(3) = 2; put(6) = 3; join(3, 6) = STATE; join(6, 3) = STATE; hand: 2 3 6
            drop(2) = 2; join(3, 6) = 2; hand: 2
            put(375) = 2; put(600) = 3; put(1000) = 4; join(1000, 600) = STATE; hand: 2 375 600 1000
            """);
    }

    private static void joinRefusals() {
        section = "Promise 18, join: of several the first as told";
        sentence("UNKNOWN ahead of OUTSIDE", """
            put(2) = 1; join(3, 3) = UNKNOWN; join(2, 3) = UNKNOWN; join(3, 2) = UNKNOWN; hand: 2
            """);
        sentence("UNKNOWN ahead of STATE", "put(2) = 1; put(3) = 2; join(3, 6) = UNKNOWN; join(6, 3) = UNKNOWN; hand: 2 3");
        sentence("OUTSIDE ahead of STATE", "put(3) = 1; put(6) = 2; join(6, 6) = OUTSIDE; hand: 3 6");
        sentence("never FULL", "put(3) = 1; put(6) = 2; put(7) = 3; put(8) = 4; put(9) = 5; join(3, 6) = 2; hand: 2 7 8 9");
    }

    private static void against() {
        section = "Promise 19, against";
        sentence("0 it is, 1 it is more, -1 less", """
            put(2) = 1; against(1, 2) = 0; against(500, 1000) = 0; against(499, 1000) = 1; against(501, 1000) = -1
            against(499, 999) = 1; against(500, 999) = -1; against(1, 1000) = 1; against(1000, 1) = -1
            """);
        sentence("without any it is less", "against(1, 1000) = -1; against(1, 1) = -1; against(1000, 1) = -1");
        sentence("the most that there may be", """
            put(2) = 1; put(3) = 2; put(4) = 3; put(5) = 4; put(6) = 5; against(29, 20) = 0; against(724, 500) = 1
            against(726, 500) = -1
            """);
        sentence("as many and as great as there may be", """
            put(1000) = 1; put(999) = 2; put(997) = 3; put(991) = 4; put(989) = 5; against(5, 1000) = 1; against(5, 996) = 1
            against(5, 995) = -1; against(5, 989) = -1; against(1, 1000) = 1; against(1000, 1) = -1
            """);
        sentence("OUTSIDE", """
            outside 1..1000: against(#, 1)
            outside 1..1000: against(1, #)
            against(0, 0) = OUTSIDE; against(1001, 1001) = OUTSIDE
            """);
    }

    private static void pairs() {
        section = "Promise 20, pairs";
        sentence("How many PAIRS: none", "pairs(3, 1) = 0; pairs(1000, 1) = 0; pairs(4, 5) = 0; pairs(1000, 499) = 0");
        sentence("How many PAIRS: one and more", """
            pairs(2, 1) = 1; pairs(1, 1) = 1; pairs(1, 997) = 2; pairs(1, 1000) = 25; pairs(1, 720) = 68; pairs(1, 840) = 95
            """);
        sentence("OUTSIDE", """
            outside 1..1000: pairs(#, 1)
            outside 1..1000: pairs(1, #)
            rich; pairs(0, 0) = OUTSIDE; pairs(1001, 1001) = OUTSIDE
            """);
        sentence("never FULL", "100 x pairs(1, 2) = 2; 100 x pair(1, 2, 0, 0) = 3; count(3) = 0");
    }

    private static void pair() {
        section = "Promise 21, pair";
        sentence("what = 0 x, 1 y", "pair(1, 2, 0, 0) = 3; pair(1, 2, 0, 1) = 6");
        sentence("NONE: there is none", """
            pair(1, 2, 1, 0) = 4; pair(1, 2, 2, 0) = NONE; pair(1, 2, 2, 1) = NONE; pair(1, 2, -1, 0) = NONE
            pair(1, 2, -1, 1) = NONE; pair(1, 2, MIN, 0) = NONE; pair(1, 2, MAX, 1) = NONE; pair(3, 1, 0, 0) = NONE
            pair(3, 1, 0, 1) = NONE; pair(1, 1000, 24, 1) = 2000; pair(1, 1000, 25, 1) = NONE
            """);
        sentence("OUTSIDE: a, b, what", """
            outside 1..1000: pair(#, 1, 0, 0)
            outside 1..1000: pair(1, #, 0, 1)
            outside 0..1: pair(1, 2, 0, #)
            """);
        sentence("OUTSIDE, and there is none", """
            rich
            pair(1, 2, 2, 2) = OUTSIDE; pair(1, 2, -1, -1) = OUTSIDE; pair(3, 1, 0, 2) = OUTSIDE
            pair(0, 1, -1, 0) = OUTSIDE; pair(1, 1001, 9, 1) = OUTSIDE
            """);
    }

    private static void triples() {
        section = "Promise 22, triples";
        sentence("How many TRIPLES", """
            triples(4, 1) = 0; triples(1000, 40) = 0; triples(3, 1) = 1; triples(1, 1) = 3; triples(1, 2) = 10
            triples(1, 40) = 604
            """);
        sentence("(b 1 to 40)", """
            triples(1, 1) = 3; triples(1, 40) = 604; triples(20, 40) = 10; triples(1, 41) = OUTSIDE; triples(41, 41) = OUTSIDE
            triples(1, 1000) = OUTSIDE
            outside 1..40: triples(1, #)
            outside 1..40: triple(1, #, 0, 0)
            """);
        sentence("OUTSIDE", """
            outside 1..1000: triples(#, 40)
            rich; triples(0, 0) = OUTSIDE; triples(0, 41) = OUTSIDE; triples(1001, 41) = OUTSIDE
            """);
    }

    private static void triplesDone() {
        section = "Promise 22, triples: FULL: triples(), triple() were done 40 times together";
        String full = """
            count(3) = 40; triples(1, 1) = FULL; triple(1, 1, 0, 0) = FULL; triple(1, 1, 9, 2) = FULL; count(3) = 40
            """;
        sentence("all by triples()", "39 x triples(1, 1) = 3; count(3) = 39; triples(1, 1) = 3; " + full);
        sentence("all by triple()", "39 x triple(1, 1, 0, 0) = 2; count(3) = 39; triple(1, 1, 0, 2) = 6; " + full);
        sentence("the last by triples()", "39 x triple(1, 1, 0, 0) = 2; triples(1, 1) = 3; " + full);
        sentence("the last by triple()", "39 x triples(1, 1) = 3; triple(1, 1, 0, 2) = 6; " + full);
        sentence("by those that find nothing", """
            20 x triples(4, 1) = 0; 10 x triple(1, 1, 3, 0) = NONE; 10 x triple(1, 1, -1, 0) = NONE
            """ + full);
        sentence("by no refused one", """
            39 x triples(1, 1) = 3; 9 x triples(1, 41) = OUTSIDE; 9 x triple(1, 1, 0, 3) = OUTSIDE
            9 x triple(0, 1, 0, 0) = OUTSIDE; count(3) = 39; triples(1, 1) = 3
            """ + full);
        sentence("OUTSIDE ahead of FULL", """
            rich
            39 x triples(1, 1) = 3; triples(1, 1) = FULL
            triples(0, 1) = OUTSIDE; triples(1001, 1) = OUTSIDE; triples(1, 0) = OUTSIDE; triples(1, 41) = OUTSIDE
            """);
        sentence("by no other call, and none of those is FULL", """
            40 x triples(1, 1) = 3; pairs(1, 2) = 2; pair(1, 2, 0, 0) = 3; ways(1, 2, 1, 0, 2) = 1; fewest(1, 2, 0, 2) = 1
            take(1, 2, 1, 0, 2, 0) = 1; smallest(1, 2, 1, 0, 2) = 2; greedy(1, 1) = 3; put(3) = 2; bar(2, true) = 0; count(2) = 4
            """ + full);
    }

    private static void triple() {
        section = "Promise 23, triple";
        sentence("what = 0 x, 1 y, 2 z", """
            triple(1, 1, 0, 0) = 2; triple(1, 1, 0, 1) = 3; triple(1, 1, 0, 2) = 6
            outside 0..2: triple(1, 1, 0, #)
            """);
        sentence("NONE", """
            triple(1, 1, 2, 0) = 3; triple(1, 1, 3, 0) = NONE; triple(1, 1, -1, 0) = NONE; triple(1, 1, MIN, 1) = NONE
            triple(1, 1, MAX, 2) = NONE; triple(4, 1, 0, 0) = NONE; count(3) = 6
            """);
        sentence("OUTSIDE", """
            outside 1..1000: triple(#, 40, 0, 0)
            outside 1..40: triple(1, #, 0, 2)
            rich; triple(1, 41, -1, 0) = OUTSIDE; triple(1, 1, 3, 3) = OUTSIDE; triple(4, 1, 0, -1) = OUTSIDE
            triple(0, 0, 0, 3) = OUTSIDE
            """);
        sentence("FULL", "rich; 39 x triple(4, 1, 0, 0) = NONE; triple(1, 1, 0, 0) = FULL; triple(1, 1, -1, 0) = FULL");
        sentence("OUTSIDE ahead of FULL", """
            rich
            39 x triple(1, 1, 0, 0) = 2; triple(1, 1, 0, 0) = FULL
            triple(0, 1, 0, 0) = OUTSIDE; triple(1001, 1, 0, 0) = OUTSIDE; triple(1, 0, 0, 0) = OUTSIDE
            triple(1, 41, 0, 0) = OUTSIDE; triple(1, 1, 0, -1) = OUTSIDE; triple(1, 1, 0, 3) = OUTSIDE
            """);
    }

    private static void count() {
        section = "Promise 24, count";
        sentence("none of each", "count(0) = 0; count(1) = 0; count(2) = 0; count(3) = 0; count(4) = 0");
        sentence("0 NUMBERS in THE HAND", """
            put(2) = 1; count(0) = 1; put(3) = 2; put(4) = 3; put(5) = 4; put(6) = 5; count(0) = 5; put(7) = FULL; count(0) = 5
            drop(2) = 4; count(0) = 4; clear() = 4; count(0) = 0
            take(1, 1, 3, 0, 6, 0) = 1; count(0) = 3; split(3) = 12; count(0) = 4; join(4, 12) = 3; count(0) = 3
            """);
        sentence("1 BARRED", """
            bar(120, true) = 0; count(1) = 1; bar(120, true) = 1; count(1) = 1; bar(121, true) = OUTSIDE; count(1) = 1
            each 2..119: bar(#, true) = 0
            count(1) = 119; bar(2, false) = 1; count(1) = 118
            """);
        sentence("2 rows sought", """
            fewest(1, 2, 0, 2) = 1; count(2) = 1; ways(1, 2, 1, 0, 2) = 1; count(2) = 2; take(1, 2, 1, 0, 2, 0) = 1; count(2) = 3
            smallest(1, 2, 1, 0, 2) = 2; count(2) = 4; 56 x ways(1, 2, 1, 0, 2) = 1; count(2) = 60
            ways(1, 2, 1, 0, 2) = FULL; count(2) = 60
            """);
        sentence("3 triples() and triple() done", """
            triples(1, 1) = 3; count(3) = 1; triple(1, 1, 0, 0) = 2; count(3) = 2; 38 x triples(4, 1) = 0; count(3) = 40
            triples(1, 1) = FULL; count(3) = 40
            """);
        sentence("4 GREEDY steps at hand", """
            greedy(605, 161) = 35; count(4) = 35; greedy(1, 2) = 1; count(4) = 1; greedy(0, 2) = OUTSIDE; count(4) = 1
            """);
        sentence("OUTSIDE", """
            outside 0..4: count(#)
            """);
    }

    private static void digest() {
        section = "Promise 25, digest";
        sentence("h is 157", "digest() = 4677187; digest: 0 0 0");
        sentence("BARRED NUMBERS", """
            bar(120, true) = 0; digest: 120 0 0 0
            bar(2, true) = 0; digest: 2 120 0 0 0
            bar(120, false) = 1; digest: 2 0 0 0
            """);
        sentence("THE HAND's", """
            put(1000) = 1; put(2) = 2; digest: 2 1000 0 0 0
            bar(7, true) = 0; digest: 7 2 1000 0 0 0
            clear() = 2; digest: 7 0 0 0
            """);
        sentence("those of GREEDY, done()", """
            greedy(1, 1) = 3; digest: 2 3 6 1 0 0
            put(9) = 1; digest: 9 2 3 6 1 0 0
            greedy(5, 121) = 2; digest: 9 25 757 0 0 0
            greedy(804, 845) = 6; digest: 9 2 3 9 143 23902 999760905 1 0 0
            """);
        sentence("what count() tells for 2, 3", """
            2 x ways(1, 2, 1, 0, 2) = 1; digest: 0 2 0
            triples(1, 1) = 3; digest: 0 2 1
            58 x ways(1, 2, 1, 0, 2) = 1; 39 x triples(1, 1) = 3; digest: 0 60 40
            ways(1, 2, 1, 0, 2) = FULL; triples(1, 1) = FULL; digest: 0 60 40
            """);
        sentence("in order", """
            greedy(1, 1) = 3; put(9) = 1; bar(7, true) = 0; triples(1, 1) = 3; 5 x ways(1, 2, 1, 0, 2) = 1
            digest: 7 9 2 3 6 1 5 1
            """);
    }

    private static void digestWraps() {
        section = "Promise 25, digest: (as longs, wrapping)";
        // 157 times 31 to the 11th goes into a long, times 31 to the 12th no more.
        sentence("the last that needs no wrapping", """
            each 2..9: bar(#, true) = 0
            digest: 2 3 4 5 6 7 8 9 0 0 0
            digest() = 3990853002836304831
            """);
        sentence("the first that wraps", """
            each 2..10: bar(#, true) = 0
            digest: 2 3 4 5 6 7 8 9 10 0 0 0
            digest() = -5410765428041113641
            """);
        StringBuilder all = new StringBuilder("digest:");
        for (int n = 2; n <= 120; n++) {
            all.append(" ").append(n);
        }
        all.append(" 996 997 998 999 1000");
        for (int n = 2; n <= 36; n++) {
            all.append(" ").append(n);
        }
        sentence("as much as there may be", """
            each 2..120: bar(#, true) = 0
            each 996..1000: put(#) = *
            greedy(605, 161) = 35; 60 x ways(1, 2, 1, 0, 2) = 0; 40 x triples(1, 1) = 3
            """ + all + " 0 60 40");
    }

    // ---- how a sentence is tested

    private static void sentence(String words, String script) {
        sentences++;
        sentence = words;
        for (List<Call> run : Script.runs(script)) {
            if (run.size() > MOST_CALLS) {
                fault("a run has " + run.size() + " calls");
            }
            answersAreDue(run);
            nothingElseChanges(run);
        }
    }

    private static void fault(String what) {
        wrong++;
        System.out.println(section + " / " + sentence + ": " + what);
    }

    private static void answersAreDue(List<Call> run) {
        UnitShares u = new UnitShares();
        for (int i = 0; i < run.size(); i++) {
            Call call = run.get(i);
            String got = call.answer(u);
            if (!call.due.isEmpty() && !call.due.equals(got)) {
                fault("call " + (i + 1) + ", " + call.text + ", answered " + got);
            }
        }
    }

    private static void nothingElseChanges(List<Call> run) {
        Map<String, String> before = State.behind(run, 0);
        for (int i = 0; i < run.size() && i + 1 + State.QUESTIONS.size() <= MOST_CALLS; i++) {
            Map<String, String> after = State.behind(run, i + 1);
            Set<String> free = run.get(i).mayChange();
            for (String part : after.keySet()) {
                if (!free.contains(part) && !after.get(part).equals(before.get(part))) {
                    fault("call " + (i + 1) + ", " + run.get(i).text + ", changed " + part
                        + " from " + before.get(part) + " to " + after.get(part));
                }
            }
            before = after;
        }
    }

    /** Reads the form of the runs that the head of this file tells. */
    private static final class Script {
        private static final String RICH = "bar(3, true) = 0; bar(120, true) = 0; put(4) = 1; put(9) = 2; "
            + "greedy(4, 17) = 4; ways(1, 2, 1, 0, 2) = 1; triples(1, 1) = 3";
        private static final Pattern EACH = Pattern.compile("each (-?\\d+)\\.\\.(\\d+): (.*)");
        private static final Pattern OUTSIDE = Pattern.compile("outside (-?\\d+)\\.\\.(\\d+): (.*)");
        private static final Pattern TIMES = Pattern.compile("(\\d+) x (.*)");

        private final List<List<Call>> runs = new ArrayList<>();

        static List<List<Call>> runs(String script) {
            Script read = new Script();
            read.startRun();
            for (String line : script.split("\n")) {
                read.line(line.trim());
            }
            read.runs.removeIf(List::isEmpty);
            return read.runs;
        }

        private void startRun() {
            runs.add(new ArrayList<>());
        }

        private void line(String line) {
            Matcher each = EACH.matcher(line);
            Matcher outside = OUTSIDE.matcher(line);
            if (each.matches()) {
                for (int n = Integer.parseInt(each.group(1)); n <= Integer.parseInt(each.group(2)); n++) {
                    line(each.group(3).replace("#", "" + n));
                }
            } else if (outside.matches()) {
                outside(Integer.parseInt(outside.group(1)), Integer.parseInt(outside.group(2)), outside.group(3));
            } else {
                for (String part : line.split(";")) {
                    part(part.trim());
                }
            }
        }

        /** The first that are not allowed, on both sides, and some that are farther off. */
        private void outside(int low, int high, String call) {
            startRun();
            line(RICH);
            for (String n : new String[] {"" + (low - 1), "" + (high + 1), "" + (low - 2), "-" + high, "MIN", "MAX"}) {
                part(call.replace("#", n) + " = OUTSIDE");
            }
            startRun();
        }

        private void part(String part) {
            Matcher times = TIMES.matcher(part);
            if (part.equals("new")) {
                startRun();
            } else if (part.equals("rich")) {
                line(RICH);
            } else if (part.startsWith("hand:")) {
                hand(part.substring(5).trim());
            } else if (part.startsWith("digest:")) {
                part("digest() = " + digest(part.substring(7).trim()));
            } else if (times.matches()) {
                for (int i = Integer.parseInt(times.group(1)); i > 0; i--) {
                    part(times.group(2));
                }
            } else if (!part.isEmpty()) {
                runs.get(runs.size() - 1).add(new Call(part));
            }
        }

        private void hand(String numbers) {
            String[] held = numbers.isEmpty() ? new String[0] : numbers.split(" ");
            part("count(0) = " + held.length);
            for (int i = 0; i < held.length; i++) {
                part("held(" + i + ") = " + held[i]);
            }
            part("held(" + held.length + ") = NONE");
        }

        /** Reckoned in whole and cut to a long at the end alone, so that it looks at the wrapping from outside. */
        private static long digest(String numbers) {
            BigInteger h = BigInteger.valueOf(157);
            for (String n : numbers.split(" ")) {
                h = h.multiply(BigInteger.valueOf(31)).add(new BigInteger(n));
            }
            return h.longValue();
        }
    }

    /** One call, with the answer that is due ("": any). */
    private static final class Call {
        private static final Pattern FORM = Pattern.compile("(\\w+)\\(([^)]*)\\)(?: = (\\*|-?\\w+))?");
        private static final Map<String, Method> FACE = new HashMap<>();
        private static final Map<String, Integer> NAMES = Map.of("NONE", -1, "UNKNOWN", -101, "OUTSIDE", -102, "STATE", -103,
            "FULL", -104, "MIN", Integer.MIN_VALUE, "MAX", Integer.MAX_VALUE);
        private static final Set<String> REFUSALS = Set.of("-101", "-102", "-103", "-104");

        static {
            for (Method method : UnitShares.class.getMethods()) {
                FACE.put(method.getName(), method);
            }
        }

        final String text;
        final String due;
        private final String name;
        private final Object[] with;

        Call(String text) {
            Matcher form = FORM.matcher(text);
            if (!form.matches() || !FACE.containsKey(form.group(1))) {
                throw new IllegalArgumentException("no call: " + text);
            }
            this.text = text;
            name = form.group(1);
            due = form.group(3) == null || form.group(3).equals("*") ? "" : number(form.group(3));
            String[] arguments = form.group(2).isEmpty() ? new String[0] : form.group(2).split(", ");
            with = new Object[arguments.length];
            for (int i = 0; i < arguments.length; i++) {
                boolean isTruth = arguments[i].equals("true") || arguments[i].equals("false");
                with[i] = isTruth ? (Object) Boolean.valueOf(arguments[i]) : (Object) Integer.valueOf(number(arguments[i]));
            }
        }

        private static String number(String text) {
            return NAMES.containsKey(text) ? "" + NAMES.get(text) : text;
        }

        String answer(UnitShares u) {
            try {
                return "" + FACE.get(name).invoke(u, with);
            } catch (InvocationTargetException thrown) {
                return "with " + thrown.getCause();
            } catch (IllegalAccessException hidden) {
                return "nothing: " + hidden;
            }
        }

        /** What the document lets this call change, if it answers what is due. */
        Set<String> mayChange() {
            if (REFUSALS.contains(due)) {
                return Set.of();
            }
            switch (name) {
                case "bar":
                    return Set.of("what is BARRED", "the digest");
                case "fewest": case "ways":
                    return Set.of("rows sought", "the digest");
                case "take": case "smallest":
                    return due.equals("-1")
                        ? Set.of("rows sought", "the digest")
                        : Set.of("rows sought", "THE HAND", "the digest");
                case "greedy":
                    return Set.of("GREEDY", "the digest");
                case "put": case "drop": case "clear": case "split": case "join":
                    return Set.of("THE HAND", "the digest");
                case "triples": case "triple":
                    return Set.of("triples done", "the digest");
                default:
                    return Set.of();
            }
        }
    }

    /** All that an object tells of its state, by the part that it belongs to. */
    private static final class State {
        static final List<Call> QUESTIONS = new ArrayList<>();
        private static final List<String> PARTS = new ArrayList<>();

        static {
            ask("the digest", "digest()");
            ask("rows sought", "count(2)");
            ask("triples done", "count(3)");
            ask("what is BARRED", "count(1)\neach 2..120: isOf(#, 0)");
            ask("THE HAND", "count(0); sum(0); sum(1)\neach 0..5: held(#)");
            ask("GREEDY", "count(4); done()\neach 0..40: step(#); left(#, 0); left(#, 1)");
        }

        private static void ask(String part, String questions) {
            for (Call question : Script.runs(questions).get(0)) {
                QUESTIONS.add(question);
                PARTS.add(part);
            }
        }

        /** Of a new object that had the first so many calls of a run. */
        static Map<String, String> behind(List<Call> run, int many) {
            UnitShares u = new UnitShares();
            for (int i = 0; i < many; i++) {
                run.get(i).answer(u);
            }
            Map<String, String> state = new TreeMap<>();
            for (int i = 0; i < QUESTIONS.size(); i++) {
                state.merge(PARTS.get(i), QUESTIONS.get(i).answer(u), (before, next) -> before + " " + next);
            }
            return state;
        }
    }
}
