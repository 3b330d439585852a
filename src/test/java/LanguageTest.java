import java.io.IOException;
import java.lang.reflect.Constructor;
import java.lang.reflect.Field;
import java.lang.reflect.Method;
import java.lang.reflect.Modifier;
import java.nio.charset.StandardCharsets;
import java.nio.file.Files;
import java.nio.file.Path;
import java.util.ArrayList;
import java.util.List;
import java.util.Set;
import java.util.TreeSet;
import java.util.regex.Pattern;

/** What a glance can see of ../shared/LANGUAGE.md: the face, the words left out, the sizes. */
public final class LanguageTest {
    private static final Path SOURCE = Path.of("src/main/java/Leastcode.java");

    /** The exceptions of rule 6. */
    private static final String TAKEN_EXCEPTIONS = "(IllegalState|IllegalArgument|IndexOutOfBounds"
            + "|Arithmetic|UnsupportedOperation|NoSuchElement|Runtime)Exception\\b";

    private static final String[] FACE = {
        "int addProgram()", "int add(int,char,int,int)", "int drop(int)", "int size(int)",
        "int at(int,int)", "int run(int,int)", "int price(char,int)", "int setWait(int)",
        "int cost(int)", "int reads(int)", "int lives(int,int,int)",
        "boolean isDead(int,int,int)", "int sweep(int,int)", "boolean isSame(int,int,int)",
        "int addGoal(int,int)", "int setRow(int,int,int)", "boolean openRow(int,int)",
        "boolean meets(int,int)", "int counter(int,int)", "int wrong(int,int)", "int kills(int)",
        "int killer()", "int least(int,int)", "int cheapest(int,int)", "int walk(int,int,int)",
        "int seed(int)", "int foundSize()", "int foundAt(int)", "int keep()", "int unlike(int)",
        "int addRule(int,int,int)", "int rewrite(int,int)", "int used(int)",
        "int shrink(int,int,int)", "long checksum()", "float openShare(int)", "double meanSize()",
        "boolean isSound()",
    };

    private static final String[] LEFT_OUT = {
        "->", "::", "\\bassert\\b", "\\bsynchronized\\b", "\\bfinally\\b", "\\bpackage\\b",
        "\\bcatch\\s*\\(\\s*(?!" + TAKEN_EXCEPTIONS + ")", "\\bgetMessage\\b",
        "\\bthrow\\s+(?!new\\s+" + TAKEN_EXCEPTIONS + ")",
        "\\bequals\\s*\\(\\s*Object", "\\bhashCode\\b", "\\bString\\s+toString\\s*\\(",
        "\\bSystem\\.(?!arraycopy)", "\\bMath\\.\\w*Exact\\b", "\\bRandom\\b", "\\bThread\\b",
        "\\bnative\\b", "\\bstatic\\s*\\{", "\\bObject\\b", "\\bprotected\\b",
    };

    private static final Set<String> TAKEN_IMPORTS = Set.of("ArrayList", "Arrays", "Iterator",
            "List", "NoSuchElementException");

    private static int wrong = 0;

    public static void main(String[] args) throws IOException {
        face();
        insides();
        String source = Files.readString(SOURCE, StandardCharsets.ISO_8859_1);
        words(source);
        sizes(source);
        System.out.println(wrong == 0 ? "the language is kept" : wrong + " rules are not kept");
        if (wrong != 0) {
            System.exit(1);
        }
    }

    private static void need(boolean held, String what) {
        if (!held) {
            wrong++;
            System.out.println(what);
        }
    }

    private static String told(Method method) {
        StringBuilder all = new StringBuilder();
        all.append(method.getReturnType().getSimpleName()).append(' ').append(method.getName());
        List<String> types = new ArrayList<>();
        for (Class<?> type : method.getParameterTypes()) {
            types.add(type.getSimpleName());
        }
        return all.append('(').append(String.join(",", types)).append(')').toString();
    }

    private static void face() {
        Class<?> type = Leastcode.class;
        need(Modifier.isFinal(type.getModifiers()), "rule 1: the class is final");
        Set<String> open = new TreeSet<>();
        Set<String> openNames = new TreeSet<>();
        for (Method method : type.getDeclaredMethods()) {
            if (Modifier.isPublic(method.getModifiers())) {
                open.add(told(method));
                openNames.add(method.getName());
            } else {
                need(Modifier.isPrivate(method.getModifiers()), "rule 1: " + method);
            }
        }
        need(open.equals(new TreeSet<>(List.of(FACE))), "rule 1: the face is " + open);
        for (Method method : type.getDeclaredMethods()) {
            need(Modifier.isPublic(method.getModifiers())
                    || !openNames.contains(method.getName()), "rule 1: " + method);
        }
        Constructor<?>[] made = type.getDeclaredConstructors();
        need(made.length == 1 && Modifier.isPublic(made[0].getModifiers())
                && made[0].getParameterCount() == 0, "rule 1: one public constructor");
        for (Field field : type.getDeclaredFields()) {
            need(Modifier.isPrivate(field.getModifiers()), "rule 1: " + field);
        }
    }

    private static List<Class<?>> all() {
        List<Class<?>> all = new ArrayList<>();
        all.add(Leastcode.class);
        all.addAll(List.of(Leastcode.class.getDeclaredClasses()));
        return all;
    }

    private static void insides() {
        need(all().size() <= 14, "rule 11: some twelve classes");
        for (Class<?> type : all()) {
            int fields = 0;
            for (Field field : type.getDeclaredFields()) {
                if (Modifier.isStatic(field.getModifiers())) {
                    need(Modifier.isFinal(field.getModifiers()), "rule 5: " + field);
                } else {
                    fields++;
                }
            }
            need(fields <= 22, "rule 11: some twenty fields of " + type);
            need(type == Leastcode.class || Modifier.isStatic(type.getModifiers()),
                    "rule 1: static " + type);
            for (Method method : type.getDeclaredMethods()) {
                need(method.getParameterCount() <= 7, "rule 11: parameters of " + method);
            }
        }
    }

    private static void words(String source) {
        String bare = source.replaceAll("(?s)/\\*.*?\\*/", "").replaceAll("//[^\n]*", "");
        // The arrow of a switch is none of a lambda.
        String arrowless = bare.replaceAll("\\b(case\\b[^\n:]*?|default\\s*)->", "");
        for (String word : LEFT_OUT) {
            need(!Pattern.compile(word).matcher(arrowless).find(), "left out: " + word);
        }
        for (int i = 0; i < bare.length(); i++) {
            need(bare.charAt(i) < 128, "rule 4: sign " + (int) bare.charAt(i));
        }
        for (String line : source.split("\n")) {
            if (line.startsWith("import ")) {
                String name = line.replaceAll("import java\\.util\\.|;\\s*$", "");
                need(TAKEN_IMPORTS.contains(name), "rule 4: " + line);
            }
        }
    }

    /** A method begins at a line that ends with an opening brace, one or two classes deep. */
    private static void sizes(String source) {
        String[] lines = source.split("\n");
        int begun = -1;
        String indent = "";
        for (int i = 0; i < lines.length; i++) {
            String line = lines[i];
            if (begun < 0 && line.matches("(    |        )[a-z].*\\(.*")
                    && !line.contains(";") && !line.contains(" class ")) {
                begun = i;
                indent = line.substring(0, line.length() - line.stripLeading().length());
            } else if (begun >= 0 && line.equals(indent + "}")) {
                need(i - begun < 66, "rule 11: a long method at line " + (begun + 1));
                begun = -1;
            }
        }
    }
}
