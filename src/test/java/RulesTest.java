import java.io.IOException;
import java.lang.reflect.Field;
import java.lang.reflect.Method;
import java.lang.reflect.Modifier;
import java.nio.file.Files;
import java.nio.file.Path;
import java.util.Arrays;
import java.util.Set;
import java.util.TreeSet;
import java.util.regex.Matcher;
import java.util.regex.Pattern;

/** The public face of the document, and those rules of LANGUAGE.md that can be looked up in the source. */
public final class RulesTest {
    private static final Checks CHECKS = new Checks("RulesTest");
    private static final Path SOURCE = Path.of("src/main/java/DroveRoads.java");
    private static final String[] FACE = {
        "int stance(int)", "boolean first(int)", "boolean grass(int,int,int,int)", "int herd(int,int,int,int)",
        "int letter(int)", "int known(int)", "int feed(int,int,int,int,int)", "int end(int)", "int orders(int)",
        "int fault(int)", "int days(int)", "int of(int,int)", "int at(int,int)", "int gain(int,int)",
        "int length(int,int)", "int act(int,int,int)", "int bill(int,int,int)", "int pass(int,int,int,int)",
        "boolean untell(int)", "int holder(int,int,int)", "int pay(int)", "int paid(int,int)", "int about(int)",
    };

    public static void main(String[] args) throws IOException {
        face();
        nestedClasses();
        String code = withoutComments(Files.readString(SOURCE));
        forbiddenWords(code);
        shortMethods(code);
        CHECKS.close();
    }

    private static void face() {
        Set<String> want = new TreeSet<>(Arrays.asList(FACE));
        Set<String> found = new TreeSet<>();
        Set<String> names = new TreeSet<>();
        for (Method m : DroveRoads.class.getDeclaredMethods()) {
            if (Modifier.isPublic(m.getModifiers())) {
                found.add(signature(m));
                names.add(m.getName());
                CHECKS.holds(m + " is not static", !Modifier.isStatic(m.getModifiers()));
            }
        }
        CHECKS.holds("the methods are those of the document: " + found, found.equals(want));
        for (Method m : DroveRoads.class.getDeclaredMethods()) {
            boolean isPublic = Modifier.isPublic(m.getModifiers());
            CHECKS.holds(m + " is public or private", isPublic || Modifier.isPrivate(m.getModifiers()));
            CHECKS.holds(m + " has a name of its own", isPublic || !names.contains(m.getName()));
        }
        for (Field f : DroveRoads.class.getDeclaredFields()) {
            boolean isNone = f.getName().equals("NONE");
            CHECKS.holds(f + " is private", isNone ? Modifier.isPublic(f.getModifiers()) : Modifier.isPrivate(f.getModifiers()));
        }
        CHECKS.holds("public and final", (DroveRoads.class.getModifiers() & (Modifier.PUBLIC | Modifier.FINAL)) == (Modifier.PUBLIC | Modifier.FINAL));
        CHECKS.due("constructors", DroveRoads.class.getDeclaredConstructors().length, 1);
        CHECKS.due("public constructors", DroveRoads.class.getConstructors().length, 1);
    }

    private static String signature(Method m) {
        StringBuilder types = new StringBuilder();
        for (Class<?> type : m.getParameterTypes()) {
            types.append(types.length() == 0 ? "" : ",").append(type.getName());
        }
        return m.getReturnType().getName() + " " + m.getName() + "(" + types + ")";
    }

    private static void nestedClasses() {
        Class<?>[] nested = DroveRoads.class.getDeclaredClasses();
        CHECKS.holds("at most twelve classes", nested.length + 1 <= 12);
        for (Class<?> c : nested) {
            CHECKS.holds(c + " is static", Modifier.isStatic(c.getModifiers()));
            CHECKS.holds(c + " is not public or protected", (c.getModifiers() & (Modifier.PUBLIC | Modifier.PROTECTED)) == 0);
            checkFields(c);
            for (Method m : c.getDeclaredMethods()) {
                CHECKS.holds(m + " takes at most seven", m.getParameterCount() <= 7);
                CHECKS.holds(m + " has a name of its own", !isOfTheFace(m.getName()));
            }
        }
        checkFields(DroveRoads.class);
    }

    private static boolean isOfTheFace(String name) {
        for (String method : FACE) {
            if (method.contains(" " + name + "(")) {
                return true;
            }
        }
        return false;
    }

    private static void checkFields(Class<?> c) {
        int own = 0;
        for (Field f : c.getDeclaredFields()) {
            if (Modifier.isStatic(f.getModifiers())) {
                CHECKS.holds(f + " is final", Modifier.isFinal(f.getModifiers()));
            } else {
                own++;
            }
        }
        CHECKS.holds(c + " has at most twenty fields", own <= 20);
    }

    private static String withoutComments(String source) {
        return source.replaceAll("(?s)/\\*.*?\\*/", "").replaceAll("//[^\n]*", "");
    }

    private static void forbiddenWords(String code) {
        String[] words = {"throw", "throws", "try", "catch", "finally", "synchronized", "assert", "import", "package",
            "protected", "System", "Random", "Thread", "hashCode", "toString", "native", "volatile", "double", "float"};
        for (String word : words) {
            CHECKS.holds("no " + word, !Pattern.compile("\\b" + word + "\\b").matcher(code).find());
        }
        for (String sign : new String[] {"->", "::", "@", "\" +", "+ \"", "Exact"}) {
            CHECKS.holds("no " + sign, !code.contains(sign));
        }
        Matcher calls = Pattern.compile("\\bMath\\.(\\w+)").matcher(code);
        while (calls.find()) {
            CHECKS.holds(calls.group() + " is min or max", calls.group(1).equals("min") || calls.group(1).equals("max"));
        }
    }

    /** A method stands at the depth of its class and ends with a brace at the same depth. */
    private static void shortMethods(String code) {
        String[] lines = code.split("\n");
        for (int k = 0; k < lines.length; k++) {
            Matcher head = Pattern.compile("^( {4}| {8})[^ ].*\\) \\{$").matcher(lines[k]);
            if (!head.find()) {
                continue;
            }
            int end = k;
            while (end < lines.length && !lines[end].equals(head.group(1) + "}")) {
                end++;
            }
            CHECKS.holds("a short method: " + lines[k].trim(), end - k <= 60);
        }
    }
}
