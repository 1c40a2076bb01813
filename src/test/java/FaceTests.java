import java.lang.reflect.Constructor;
import java.lang.reflect.Field;
import java.lang.reflect.Method;
import java.lang.reflect.Modifier;
import java.util.Set;
import java.util.TreeSet;

/** The public face of UnitShares is the document's, and nothing else of it can be seen. */
public final class FaceTests {
    private static final String[] FACE = {
        "int NONE = -1", "int UNKNOWN = -101", "int OUTSIDE = -102", "int STATE = -103", "int FULL = -104",
        "UnitShares()",
        "int bar(int, boolean)", "int isOf(int, int)", "int fewest(int, int, int, int)",
        "int ways(int, int, int, int, int)", "int take(int, int, int, int, int, int)",
        "int smallest(int, int, int, int, int)", "int greedy(int, int)", "int step(int)",
        "long left(int, int)", "int done()", "int put(int)", "int drop(int)", "int clear()",
        "int held(int)", "long sum(int)", "int split(int)", "int join(int, int)", "int against(int, int)",
        "int pairs(int, int)", "int pair(int, int, int, int)", "int triples(int, int)",
        "int triple(int, int, int, int)", "int count(int)", "long digest()",
    };

    private static int wrong = 0;

    public static void main(String[] args) throws IllegalAccessException {
        Class<UnitShares> type = UnitShares.class;
        check("the class is public and final", Modifier.isPublic(type.getModifiers()) && Modifier.isFinal(type.getModifiers()));
        Set<String> seen = new TreeSet<>();
        Set<String> publicNames = new TreeSet<>();
        for (Field field : type.getDeclaredFields()) {
            if (!Modifier.isPrivate(field.getModifiers())) {
                check(field + " is a public constant", field.getModifiers() == (Modifier.PUBLIC | Modifier.STATIC | Modifier.FINAL));
                seen.add(field.getType() + " " + field.getName() + " = " + field.get(null));
            }
        }
        for (Constructor<?> made : type.getDeclaredConstructors()) {
            if (!Modifier.isPrivate(made.getModifiers())) {
                seen.add("UnitShares(" + kinds(made.getParameterTypes()) + ")");
            }
        }
        for (Method method : type.getDeclaredMethods()) {
            if (!Modifier.isPrivate(method.getModifiers())) {
                seen.add(method.getReturnType() + " " + method.getName() + "(" + kinds(method.getParameterTypes()) + ")");
                publicNames.add(method.getName());
            }
        }
        Set<String> due = new TreeSet<>(Set.of(FACE));
        check("the face is " + due + ", seen is " + seen, due.equals(seen));
        checkInside(type, publicNames);
        System.out.println(wrong == 0 ? "the face is as due" : wrong + " faults of the face");
        if (wrong != 0) {
            System.exit(1);
        }
    }

    private static void checkInside(Class<?> type, Set<String> publicNames) {
        for (Method method : type.getDeclaredMethods()) {
            check("private " + method.getName() + " bears a public name",
                !Modifier.isPrivate(method.getModifiers()) || !publicNames.contains(method.getName()));
        }
        for (Class<?> inside : type.getDeclaredClasses()) {
            check(inside + " is static and not public",
                Modifier.isStatic(inside.getModifiers()) && !Modifier.isPublic(inside.getModifiers()));
            for (Method method : inside.getDeclaredMethods()) {
                check(inside + "." + method.getName() + " bears a public name", !publicNames.contains(method.getName()));
            }
        }
    }

    private static String kinds(Class<?>[] types) {
        StringBuilder text = new StringBuilder();
        for (Class<?> kind : types) {
            text.append(text.length() == 0 ? "" : ", ").append(kind);
        }
        return text.toString();
    }

    private static void check(String what, boolean holds) {
        if (!holds) {
            wrong++;
            System.out.println("not so: " + what);
        }
    }
}
