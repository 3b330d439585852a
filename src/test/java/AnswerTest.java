import java.io.IOException;
import java.nio.charset.StandardCharsets;
import java.nio.file.Files;
import java.nio.file.Path;
import java.util.Set;
import java.util.TreeSet;

/**
 * Each "Returns" of the document: the lowest answer that there can be, and the highest one.
 *
 * <p>Each line of the document that begins with "Returns" must have a test here.
 */
public final class AnswerTest {
    private static final Path DOCUMENT = Path.of("../shared/DOC.md");

    private static final String KINDS = "masnoxkcidlrtzbf";
    private static final String FULL = "f f f f f f f f";

    private static Set<String> lines = new TreeSet<>();
    private static String line = "";
    private static int checks = 0;
    private static int wrong = 0;

    private interface Call {
        Object answer();
    }

    public static void main(String[] args) throws IOException {
        programs();
        costs();
        living();
        goals();
        counterexamples();
        searches();
        found();
        rules();
        sums();
        everyLine(Files.readString(DOCUMENT, StandardCharsets.UTF_8));
        System.out.println(lines.size() + " lines, " + checks + " checks, " + wrong + " wrong");
        if (wrong != 0) {
            System.exit(1);
        }
    }

    /** The line of the promise that the checks behind this are of. */
    private static void returns(int promise, String words) {
        line = promise + " " + words;
        lines.add(line);
    }

    private static void everyLine(String document) {
        Set<String> all = new TreeSet<>();
        int promise = 0;
        for (String each : document.split("\n")) {
            if (each.startsWith("## Promise ")) {
                promise = Integer.parseInt(each.replaceAll("[^0-9]*([0-9]+):.*", "$1"));
            } else if (each.startsWith("Returns ")) {
                all.add(promise + " " + each.substring("Returns ".length()));
            }
        }
        for (String each : all) {
            if (!lines.contains(each)) {
                wrong++;
                System.out.println("no test of promise " + each);
            }
        }
        for (String each : lines) {
            if (!all.contains(each)) {
                wrong++;
                System.out.println("the document does not say: promise " + each);
            }
        }
    }

    private static void due(String what, Object want, Call call) {
        checks++;
        Object got;
        try {
            got = call.answer();
        } catch (RuntimeException e) {
            got = e.getClass();
        }
        if (!want.equals(got)) {
            wrong++;
            System.out.println("promise " + line + ", " + what + ": " + got + ", due is " + want);
        }
    }

    /** A bench with a program each out of words such as "a01 r0 f". */
    private static Leastcode bench(String... programs) {
        Leastcode x = new Leastcode();
        for (String words : programs) {
            int number = x.addProgram();
            for (String word : words.split(" ")) {
                if (!word.isEmpty()) {
                    int first = word.length() > 1 ? word.charAt(1) - '0' : 0;
                    int second = word.length() > 2 ? word.charAt(2) - '0' : 0;
                    x.add(number, word.charAt(0), first, second);
                }
            }
        }
        return x;
    }

    private static void programs() {
        returns(2, "its number.");
        Leastcode x = bench();
        due("the first", 0, () -> x.addProgram());
        Leastcode seven = bench("", "", "", "", "", "", "");
        due("the last", 7, () -> seven.addProgram());

        returns(3, "how many there are.");
        due("the first", 1, () -> x.add(0, 'm', 0, 0));
        Leastcode most = bench("f f f f f f f");
        due("the last", 8, () -> most.add(0, 'f', 0, 0));

        returns(4, "how many are left.");
        due("of one", 0, () -> x.drop(0));
        due("of eight", 7, () -> most.drop(0));

        returns(5, "how many.");
        due("none", 0, () -> x.size(0));
        due("all", 8, () -> bench(FULL).size(0));

        returns(6, "its number by the order, from 0.");
        due("the first one at the first index", 0, () -> bench("m00").at(0, 0));
        due("the last one at the last index", 46, () -> bench(FULL).at(0, 7));

        returns(7, "the state behind it.");
        due("the lowest", 0, () -> bench("i0 i1 f").run(0, 127));
        due("the highest", 127, () -> bench("d0 d1 f").run(0, 0));
        due("of none", 127, () -> bench("").run(0, 127));
        due("of eight", 1, () -> bench(FULL).run(0, 1));
    }

    private static void costs() {
        returns(8, "the cost before.");
        Leastcode x = bench(FULL);
        due("the lowest", 1, () -> x.price('f', 9));
        due("the highest", 9, () -> x.price('f', 9));

        returns(9, "the cost before.");
        due("the lowest", 0, () -> x.setWait(5));
        due("the highest", 5, () -> x.setWait(5));

        returns(10, "the cost.");
        due("the lowest", 0, () -> bench("").cost(0));
        due("the highest", 8 * 9 + 7 * 5, () -> x.cost(0));
    }

    private static void living() {
        returns(11, "the parts, as bits.");
        due("none", 0, () -> bench("z0 z1 k01").reads(0));
        due("all", 7, () -> bench("c01 c10 c01 c10 c01 c10 c01 c10").reads(0));

        returns(12, "the parts, as bits.");
        due("none", 0, () -> bench("i0").lives(0, 0, 0));
        due("none ahead of the last", 0, () -> bench("i0 z0").lives(0, 0, 1));
        due("all", 7, () -> bench("i0").lives(0, 0, 7));
        due("all for one", 7, () -> bench("i0 c01").lives(0, 0, 1));

        returns(13, "whether it is.");
        due("it is", true, () -> bench("i0").isDead(0, 0, 0));
        due("it is not", false, () -> bench("i0").isDead(0, 0, 7));

        returns(14, "how many instructions are left.");
        due("none of none", 0, () -> bench("").sweep(0, 7));
        due("none of eight", 0, () -> bench(FULL).sweep(0, 3));
        due("all of eight", 8, () -> bench(FULL).sweep(0, 4));

        returns(15, "whether they are.");
        due("they are", true, () -> bench(FULL, "").isSame(0, 1, 7));
        due("they are not", false, () -> bench("f", "").isSame(0, 1, 7));
    }

    private static void goals() {
        returns(16, "its number.");
        Leastcode x = bench("");
        for (int i = 0; i < 6; i++) {
            int number = i;
            due("number " + i, number, () -> x.addGoal(0, 7));
        }

        returns(17, "the state wanted before, -1 if it was open.");
        due("the lowest", 0, () -> x.setRow(0, 0, 127));
        due("the highest", 127, () -> x.setRow(0, 127, 0));
        due("as told, the highest", 127, () -> x.setRow(0, 0, 0));
        due("as told, the lowest", 0, () -> x.setRow(0, 127, 127));
        x.openRow(0, 0);
        x.openRow(0, 127);
        due("the lowest, open", -1, () -> x.setRow(0, 0, 0));
        due("the highest, open", -1, () -> x.setRow(0, 127, 127));

        returns(18, "whether it was.");
        due("the lowest was not", false, () -> x.openRow(0, 0));
        due("it was", true, () -> x.openRow(0, 0));
        due("the highest was not", false, () -> x.openRow(0, 127));
        due("it was, too", true, () -> x.openRow(0, 127));
    }

    private static void counterexamples() {
        returns(19, "whether it does.");
        Leastcode x = bench("", "t0 t1 f");
        x.addGoal(0, 7);
        due("it does", true, () -> x.meets(0, 0));
        due("it does not", false, () -> x.meets(0, 1));

        returns(20, "the state.");
        due("the lowest", 0, () -> x.counter(0, 1));
        x.setRow(0, 127, 126);
        due("the highest", 127, () -> x.counter(0, 0));

        returns(21, "how many.");
        due("few", 1, () -> x.wrong(0, 0));
        x.setRow(0, 127, 127);
        due("none", 0, () -> x.wrong(0, 0));
        due("all", 896, () -> x.wrong(0, 1));

        returns(22, "how often.");
        Leastcode y = bench("", "f");
        y.addGoal(0, 7);
        due("never", 0, () -> y.kills(0));
        for (int i = 0; i < 500; i++) {
            y.meets(0, 1);
        }
        due("as often as can be asked", 500, () -> y.kills(0));
        due("never another", 0, () -> y.kills(127));

        returns(23, "the state, of like ones the lowest.");
        due("the lowest", 0, () -> y.killer());
        Leastcode z = bench("");
        z.addGoal(0, 7);
        z.setRow(0, 127, 0);
        z.meets(0, 0);
        due("the highest", 127, () -> z.killer());
        z.setRow(0, 126, 0);
        z.meets(0, 0);
        due("of like ones", 126, () -> z.killer());
    }

    private static void searches() {
        returns(24, "how many it has.");
        Leastcode x = bench("", "i0 i0 i0", "f");
        x.addGoal(0, 7);
        x.addGoal(1, 7);
        x.addGoal(2, 7);
        due("none", 0, () -> x.least(0, 3));
        due("three", 3, () -> x.least(1, 3));

        returns(25, "its cost.");
        due("none", 0, () -> x.cheapest(0, 3));
        due("of one", 1, () -> x.cheapest(2, 3));
        for (char kind : KINDS.toCharArray()) {
            x.price(kind, 9);
        }
        x.setWait(5);
        due("of three, all dear, with waits", 3 * 9 + 2 * 5, () -> x.cheapest(1, 3));

        returns(26, "the wrong bits of what was found.");
        Leastcode y = bench("", "t0 t1 f");
        y.addGoal(0, 7);
        y.addGoal(1, 7);
        y.seed(6);
        due("none", 0, () -> y.walk(0, 1, 1));
        y.seed(6);
        due("all", 896, () -> y.walk(1, 1, 1));

        returns(27, "the one before.");
        Leastcode z = bench();
        due("the lowest", 1, () -> z.seed(2147483646));
        due("the highest", 2147483646, () -> z.seed(1));
        due("the lowest again", 1, () -> z.seed(1));
    }

    private static void found() {
        returns(28, "how many.");
        Leastcode x = bench("", "f", "");
        x.addGoal(0, 7);
        x.addGoal(1, 7);
        x.least(0, 0);
        due("none", 0, () -> x.foundSize());
        x.walk(0, 4, 1);
        due("four", 4, () -> x.foundSize());

        returns(29, "its number by the order, from 0.");
        x.seed(2);
        x.walk(0, 2, 2);
        due("the first one", 0, () -> x.foundAt(0));
        x.least(1, 1);
        due("the last one", 46, () -> x.foundAt(0));

        returns(30, "its number.");
        Leastcode y = bench("");
        y.addGoal(0, 7);
        y.least(0, 0);
        for (int i = 1; i < 8; i++) {
            int number = i;
            due("number " + i, number, () -> y.keep());
        }

        returns(31, "how many.");
        due("up to 0", 1, () -> y.unlike(0));
        due("up to 1", 35, () -> y.unlike(1));
        due("up to 2", 799, () -> y.unlike(2));
    }

    private static void rules() {
        returns(32, "its number, from 0.");
        Leastcode x = bench("", "", "");
        for (int i = 0; i < 8; i++) {
            int number = i;
            x.add(0, 'i', 0, 0);
            due("number " + i, number, () -> x.addRule(0, 1, 6));
        }

        returns(33, "how often a rule was taken.");
        due("never", 0, () -> x.rewrite(1, 6));
        due("as often as can be", 8, () -> x.rewrite(0, 6));

        returns(34, "how often.");
        due("never", 0, () -> x.used(7));
        due("as often", 8, () -> x.used(0));
        for (int times = 1; times < 40; times++) {
            for (int i = 0; i < 8; i++) {
                x.add(0, 'i', 0, 0);
            }
            x.rewrite(0, 6);
        }
        due("over many calls", 320, () -> x.used(0));

        returns(35, "how many instructions are left.");
        due("none of none", 0, () -> bench("").shrink(0, 1, 7));
        due("none of eight", 0, () -> bench(FULL).shrink(0, 2, 7));
        due("all of eight", 8, () -> bench("i0 i0 i0 i0 i0 i0 i0 i0").shrink(0, 3, 7));
    }

    private static void sums() {
        returns(36, "7 at first, then for each program 31 times itself plus the number of each "
                + "instruction, one behind the other, then 31 times itself plus its cost; then for "
                + "each goal 31 times itself plus how many rows are open; then 31 times itself "
                + "plus z.");
        due("of nothing", 218L, () -> bench().checksum());
        due("of one instruction", ((7L * 31 + 46) * 31 + 1) * 31 + 1, () -> bench("f").checksum());

        returns(37, "their number divided by 128, both converted to float.");
        Leastcode x = bench("");
        x.addGoal(0, 7);
        due("none", 0.0f, () -> x.openShare(0));
        for (int state = 0; state < 128; state++) {
            x.openRow(0, state);
        }
        due("all", 1.0f, () -> x.openShare(0));

        returns(38, "the sum divided by how many there are, both converted to double.");
        due("none", 0.0, () -> bench("").meanSize());
        Leastcode full = bench(FULL, FULL, FULL, FULL, FULL, FULL, FULL, FULL);
        due("all", 8.0, () -> full.meanSize());
        due("of none", ArithmeticException.class, () -> bench().meanSize());

        returns(39, "whether each rule, exchanged too, keeps its parts from all states; no program "
                + "has more than 8 instructions; and each program without those that are dead for "
                + "all parts is the same by all parts.");
        due("of nothing", true, () -> bench().isSound());
        due("of all full", true, () -> full.isSound());
        Leastcode y = bench("i0 z0 k01 f k10", "");
        y.addRule(0, 1, 2);
        due("of a rule that keeps one part", true, () -> y.isSound());
    }
}
