import java.io.IOException;
import java.lang.reflect.InvocationTargetException;
import java.lang.reflect.Method;
import java.lang.reflect.Modifier;
import java.nio.charset.StandardCharsets;
import java.nio.file.DirectoryStream;
import java.nio.file.Files;
import java.nio.file.Path;
import java.util.Set;
import java.util.TreeSet;
import java.util.regex.Matcher;
import java.util.regex.Pattern;

/**
 * Makes the calls that README.md shows and compares with the answers that it tells.
 *
 * <p>Each line of a piece of Java there must be a new bench or a call on it with what it answers;
 * each call of the face must be shown, each kind's numbers told, and each test named.
 */
public final class ReadmeTest {
    private static final Path README = Path.of("README.md");
    private static final Path TESTS = Path.of("src/test/java");
    private static final String KINDS = "masnoxkcidlrtzbf";

    private static final Pattern NEW_BENCH =
            Pattern.compile("(Leastcode )?bench = new Leastcode\\(\\);");
    private static final Pattern CALL = Pattern.compile(
            "bench\\.(\\w+)\\(([^()]*)\\); +// (throws \\w+|-?[0-9.]+|true|false)(: .+)?");
    private static final Pattern KIND =
            Pattern.compile("\\| `(.)` \\| ([0-9]+) to ([0-9]+) \\| .+ \\|");

    private static final Set<String> shown = new TreeSet<>();
    private static Leastcode bench;
    private static int calls = 0;
    private static int kinds = 0;
    private static int wrong = 0;

    public static void main(String[] args) throws IOException, IllegalAccessException {
        String readme = Files.readString(README, StandardCharsets.UTF_8);
        lines(readme);
        everyCallIsShown();
        everyTestIsNamed(readme);
        if (kinds != KINDS.length()) {
            fault("it tells the numbers of " + kinds + " kinds");
        }
        System.out.println(calls + " calls of README.md, " + kinds + " kinds, " + wrong + " wrong");
        if (wrong != 0) {
            System.exit(1);
        }
    }

    private static void fault(String what) {
        wrong++;
        System.out.println("README.md: " + what);
    }

    private static void lines(String readme) throws IllegalAccessException {
        boolean inPiece = false;
        boolean inJava = false;
        for (String line : readme.split("\n")) {
            if (line.startsWith("```")) {
                inPiece = !inPiece;
                inJava = inPiece && line.equals("```java");
            } else if (inJava) {
                javaLine(line);
            } else if (!inPiece && line.startsWith("| `")) {
                kindLine(line);
            }
        }
        if (inPiece) {
            fault("a piece has no end");
        }
    }

    private static void javaLine(String line) throws IllegalAccessException {
        Matcher call = CALL.matcher(line);
        if (NEW_BENCH.matcher(line).matches()) {
            bench = new Leastcode();
        } else if (call.matches() && bench != null) {
            String got = answer(call.group(1), call.group(2));
            if (!got.equals(call.group(3))) {
                fault(line + " answered " + got);
            }
        } else {
            fault("no call with its answer: " + line);
        }
    }

    /** What a call answers, told as the page does. */
    private static String answer(String name, String words) throws IllegalAccessException {
        Object[] values = values(words);
        for (Method method : Leastcode.class.getMethods()) {
            if (method.getName().equals(name) && method.getParameterCount() == values.length) {
                calls++;
                shown.add(name);
                try {
                    return String.valueOf(method.invoke(bench, values));
                } catch (InvocationTargetException e) {
                    return "throws " + e.getCause().getClass().getSimpleName();
                }
            }
        }
        return "nothing: there is no such call";
    }

    private static Object[] values(String words) {
        if (words.isEmpty()) {
            return new Object[0];
        }
        String[] each = words.split(", ");
        Object[] values = new Object[each.length];
        for (int i = 0; i < each.length; i++) {
            if (each[i].matches("'.'")) {
                values[i] = each[i].charAt(1);
            } else {
                values[i] = Integer.valueOf(each[i]);
            }
        }
        return values;
    }

    /** The numbers told of a kind are those that the class answers for it. */
    private static void kindLine(String line) {
        Matcher row = KIND.matcher(line);
        if (!row.matches() || kinds >= KINDS.length()
                || row.group(1).charAt(0) != KINDS.charAt(kinds)) {
            fault("no numbers of the next kind: " + line);
            return;
        }
        kinds++;
        char kind = row.group(1).charAt(0);
        int lowest = Integer.parseInt(row.group(2));
        int count = kind == 'f' ? 1 : "masnoxkc".indexOf(kind) >= 0 ? 4 : 2;
        if (Integer.parseInt(row.group(3)) != lowest + count - 1) {
            fault("it should tell " + count + " numbers: " + line);
        }
        for (int i = 0; i < count; i++) {
            int first = count == 4 ? i / 2 : i;
            int second = count == 4 ? i % 2 : 9;
            int got = numberOf(kind, first, second);
            if (got != lowest + i) {
                fault(line + " but with " + first + " and " + second + " it is " + got);
            }
        }
    }

    private static int numberOf(char kind, int first, int second) {
        Leastcode x = new Leastcode();
        x.addProgram();
        x.add(0, kind, first, second);
        return x.at(0, 0);
    }

    private static void everyCallIsShown() {
        for (Method method : Leastcode.class.getDeclaredMethods()) {
            if (Modifier.isPublic(method.getModifiers()) && !shown.contains(method.getName())) {
                fault("it shows no call of " + method.getName());
            }
        }
    }

    private static void everyTestIsNamed(String readme) throws IOException {
        try (DirectoryStream<Path> files = Files.newDirectoryStream(TESTS, "*.java")) {
            for (Path file : files) {
                if (!readme.contains("`" + TESTS + "/" + file.getFileName() + "`")) {
                    fault("it does not name " + file);
                }
            }
        }
        if (!readme.contains("bash .ci/run")) {
            fault("it does not tell how to run the tests");
        }
    }
}
