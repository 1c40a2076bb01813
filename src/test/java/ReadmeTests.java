import java.io.IOException;
import java.lang.reflect.Method;
import java.lang.reflect.Modifier;
import java.nio.file.Files;
import java.nio.file.Path;
import java.util.Set;
import java.util.TreeSet;
import java.util.regex.Matcher;
import java.util.regex.Pattern;

/** The calls that README.md (in the folder where this runs) shows answer what it says behind them. */
public final class ReadmeTests {
    private static final Pattern CALL = Pattern.compile("shares\\.(\\w+)\\(([^)]*)\\); *// (-?\\d+)\\b(.*)");
    private static final Pattern HAND = Pattern.compile(".*\\(hand: ([\\d ]+)\\)");

    private static int wrong = 0;
    private static int calls = 0;

    public static void main(String[] args) throws IOException, ReflectiveOperationException {
        UnitShares shares = new UnitShares();
        Set<String> shown = new TreeSet<>();
        for (String line : Files.readAllLines(Path.of("README.md"))) {
            Matcher call = CALL.matcher(line);
            if (call.matches()) {
                shown.add(call.group(1));
                due(line, "" + answer(shares, call.group(1), call.group(2)), call.group(3));
                Matcher hand = HAND.matcher(call.group(4));
                if (hand.matches()) {
                    due(line, held(shares), hand.group(1));
                }
            } else if (line.startsWith("shares.")) {
                due(line, "no call with an answer", "one");
            }
        }
        due("the calls that are shown", shown.toString(), face().toString());
        System.out.println(calls + " answers of README.md, " + wrong + " wrong");
        if (wrong != 0) {
            System.exit(1);
        }
    }

    private static void due(String what, String got, String want) {
        calls++;
        if (!got.equals(want)) {
            wrong++;
            System.out.println(what + ": is " + got + ", due is " + want);
        }
    }

    private static Set<String> face() {
        Set<String> names = new TreeSet<>();
        for (Method method : UnitShares.class.getDeclaredMethods()) {
            if (Modifier.isPublic(method.getModifiers())) {
                names.add(method.getName());
            }
        }
        return names;
    }

    private static Object answer(UnitShares shares, String name, String arguments) throws ReflectiveOperationException {
        String[] texts = arguments.isEmpty() ? new String[0] : arguments.split(", ");
        Object[] with = new Object[texts.length];
        Class<?>[] kinds = new Class<?>[texts.length];
        for (int i = 0; i < texts.length; i++) {
            boolean isTruth = texts[i].equals("true") || texts[i].equals("false");
            kinds[i] = isTruth ? boolean.class : int.class;
            with[i] = isTruth ? (Object) Boolean.valueOf(texts[i]) : (Object) Integer.valueOf(texts[i]);
        }
        return UnitShares.class.getMethod(name, kinds).invoke(shares, with);
    }

    private static String held(UnitShares shares) {
        StringBuilder numbers = new StringBuilder();
        for (int i = 0; shares.held(i) != UnitShares.NONE; i++) {
            numbers.append(i == 0 ? "" : " ").append(shares.held(i));
        }
        return numbers.toString();
    }
}
