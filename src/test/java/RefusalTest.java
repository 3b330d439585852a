import java.io.IOException;
import java.nio.charset.StandardCharsets;
import java.nio.file.Files;
import java.nio.file.Path;
import java.util.NoSuchElementException;
import java.util.Set;
import java.util.TreeSet;

/**
 * Each "Throws" of the document: what is refused, at the bound and far beyond it, which exception
 * goes ahead of which, and that the refused call changes nothing.
 *
 * <p>A refused call is made on one of two benches that had the same calls; afterwards both must
 * tell the same of all that there is. Each line of the document that begins with "Throws" must have
 * a test here.
 */
public final class RefusalTest {
    private static final Path DOCUMENT = Path.of("../shared/DOC.md");

    private static final Class<? extends Exception> BOUNDS = IndexOutOfBoundsException.class;
    private static final Class<? extends Exception> ARGUMENT = IllegalArgumentException.class;
    private static final Class<? extends Exception> FULL = IllegalStateException.class;
    private static final Class<? extends Exception> MISSING = NoSuchElementException.class;
    private static final Class<? extends Exception> UNSUPPORTED =
            UnsupportedOperationException.class;
    private static final Class<? extends Exception> ARITHMETIC = ArithmeticException.class;

    private static final String BOTH = "masnoxkc";
    private static final String ALONE = "idlrtzb";
    private static final String KINDS = BOTH + ALONE + "f";

    /** What is told of a bench is told in parts, as an object has at most 512 calls. */
    private static final int PARTS = 9;

    private static final int LOWEST = Integer.MIN_VALUE;
    private static final int HIGHEST = Integer.MAX_VALUE;
    /** Numbers that are out of all ranges, and the programs, goals and rules that are not there. */
    private static final int[] NO_PROGRAM = {-1, 6, 7, 8, LOWEST, HIGHEST};
    private static final int[] NO_GOAL = {-1, 2, 5, 6, LOWEST, HIGHEST};
    private static final int[] NO_RULE = {-1, 2, 7, 8, LOWEST, HIGHEST};
    /** Of the program 0, which has two instructions. */
    private static final int[] NO_INDEX = {-1, 2, 7, 8, LOWEST, HIGHEST};
    private static final int[] NO_STATE = {-1, 128, LOWEST, HIGHEST};
    private static final int[] NO_PARTS = {-1, 8, LOWEST, HIGHEST};
    private static final int[] NO_REGISTER = {-1, 2, LOWEST, HIGHEST};
    private static final char[] NO_KIND = {'e', 'g', 'M', 'A', 'F', ' ', '0', (char) 0,
        (char) 127, (char) 353, (char) 65535};

    private static final Script NEW = x -> { };
    private static final Script RICH = RefusalTest::rich;
    /** Makes all programs that there can be. */
    private static final Script FILL = x -> {
        while (told(x, y -> y.size(7)).startsWith(BOUNDS.getSimpleName())) {
            x.addProgram();
        }
    };
    /** Makes the program 0 as long as it can be. */
    private static final Script FILL_0 = x -> {
        while (x.size(0) < 8) {
            x.add(0, 'd', 1, 0);
        }
    };
    private static final Script FILL_GOALS = x -> {
        for (int i = 2; i < 6; i++) {
            x.addGoal(i, 7);
        }
    };
    /** Makes all rules that there can be, each with a left side of its own. */
    private static final Script FILL_RULES = x -> {
        for (int i = 2; i < 8; i++) {
            x.addRule(1, 2, 0);
            told(x, y -> y.add(1, 'f', 0, 0));
        }
        x.drop(1);
        x.add(1, 'z', 1, 0);
    };
    /** Opens all rows of the goal 1. */
    private static final Script OPEN_ALL = x -> {
        for (int state = 0; state < 128; state++) {
            x.openRow(1, state);
        }
    };
    /** A goal that nothing meets at once. */
    private static final Script NOTHING_FOUND = x -> {
        program(x, "i0");
        x.addGoal(0, 7);
        told(x, y -> y.least(0, 0));
    };

    private static Set<String> lines = new TreeSet<>();
    private static String line = "";
    private static int promise;
    private static int calls = 0;
    private static int wrong = 0;

    private interface Script {
        void on(Leastcode x);
    }

    private interface Call {
        Object on(Leastcode x);
    }

    public static void main(String[] args) throws IOException {
        programs();
        costs();
        living();
        goals();
        counterexamples();
        searches();
        walks();
        found();
        rules();
        shrinking();
        shares();
        firstListed();
        everyLine(Files.readString(DOCUMENT, StandardCharsets.UTF_8));
        System.out.println(
                lines.size() + " lines, " + calls + " refused calls, " + wrong + " wrong");
        if (wrong != 0) {
            System.exit(1);
        }
    }

    /** The line of the promise that the refused calls behind this are of. */
    private static void line(int number, String words) {
        promise = number;
        line = words;
        lines.add(number + " " + words);
    }

    private static void everyLine(String document) {
        Set<String> all = new TreeSet<>();
        int number = 0;
        for (String each : document.split("\n")) {
            if (each.startsWith("## Promise ")) {
                number = Integer.parseInt(each.replaceAll("[^0-9]*([0-9]+):.*", "$1"));
            } else if (each.startsWith("Throws ")) {
                all.add(number + " " + each.substring("Throws ".length()).replace("`", ""));
            }
        }
        for (String each : all) {
            if (!lines.contains(each)) {
                wrong++;
                System.out.println("no test of promise " + each);
            }
        }
        for (String each : lines) {
            if (!all.contains(each)) {
                wrong++;
                System.out.println("the document does not say: promise " + each);
            }
        }
        for (String words : new String[] {
                "Exceptions. A method that throws an exception changes nothing.",
                "If several exceptions apply, the one that is listed first is thrown."}) {
            if (!document.replaceAll("\\s+", " ").contains(words)) {
                wrong++;
                System.out.println("the document does not say: " + words);
            }
        }
    }

    /** A bench with some of everything; six programs, two goals, two rules, something found. */
    private static void rich(Leastcode x) {
        program(x, "i0 f");
        program(x, "m01 i0 a01");
        program(x, "");
        program(x, "z0 z0");
        program(x, "z0");
        program(x, "z0 z0 z0");
        x.addGoal(0, 7);
        x.addGoal(1, 5);
        x.openRow(0, 5);
        x.openRow(1, 127);
        x.setRow(0, 0, 99);
        x.price('a', 5);
        x.price('f', 2);
        x.setWait(3);
        x.seed(12345);
        x.addRule(3, 4, 7);
        x.addRule(0, 2, 2);
        x.rewrite(5, 7);
        x.meets(0, 1);
        x.meets(1, 2);
        x.meets(1, 2);
        x.least(1, 3);
    }

    private static int program(Leastcode x, String words) {
        int number = x.addProgram();
        for (String word : words.split(" ")) {
            if (!word.isEmpty()) {
                int first = word.length() > 1 ? word.charAt(1) - '0' : 0;
                int second = word.length() > 2 ? word.charAt(2) - '0' : 0;
                x.add(number, word.charAt(0), first, second);
            }
        }
        return number;
    }

    private static Script both(Script one, Script other) {
        return x -> {
            one.on(x);
            other.on(x);
        };
    }

    /** What a call answers, or the exception's name. */
    private static String told(Leastcode x, Call call) {
        try {
            return call.on(x) + " ";
        } catch (RuntimeException e) {
            return e.getClass().getSimpleName() + " ";
        }
    }

    private static void tellPrograms(Leastcode x, StringBuilder all) {
        all.append(told(x, y -> y.checksum())).append(told(x, y -> y.meanSize()));
        all.append(told(x, y -> y.isSound()));
        for (int p = 0; p <= 8; p++) {
            int program = p;
            all.append(told(x, y -> y.size(program))).append(told(x, y -> y.cost(program)));
            for (int i = 0; i <= 8; i++) {
                int index = i;
                all.append(told(x, y -> y.at(program, index)));
            }
        }
        all.append(told(x, y -> y.foundSize()));
        for (int i = 0; i <= 4; i++) {
            int index = i;
            all.append(told(x, y -> y.foundAt(index)));
        }
        for (int i = 0; i <= 8; i++) {
            int rule = i;
            all.append(told(x, y -> y.used(rule)));
        }
        for (int i = 0; i <= 6; i++) {
            int goal = i;
            all.append(told(x, y -> y.openShare(goal)));
        }
        for (char kind : KINDS.toCharArray()) {
            all.append(told(x, y -> y.price(kind, 1)));
        }
        all.append(told(x, y -> y.setWait(0))).append(told(x, y -> y.killer()));
        all.append(told(x, y -> y.seed(1))).append(told(x, y -> y.keep()));
    }

    private static void tellKillsAndRules(Leastcode x, StringBuilder all) {
        // The left side of the last rule, where there are all: it is told, as long as it stands.
        all.append(told(x, y -> y.drop(1))).append(told(x, y -> y.add(1, 'f', 0, 0)));
        all.append(told(x, y -> y.addRule(1, 2, 0)));
        for (int i = 0; i < 128; i++) {
            int state = i;
            all.append(told(x, y -> y.kills(state)));
        }
        for (int i = 0; i < 9; i++) {
            all.append(told(x, y -> y.addProgram()));
            all.append(told(x, y -> y.addGoal(0, 7)));
        }
        for (int p = 0; p < 8; p++) {
            int program = p;
            for (int live : new int[] {7, 2, 0}) {
                all.append(told(x, y -> y.rewrite(program, live)));
                all.append(told(x, y -> y.size(program)));
            }
            all.append(told(x, y -> y.addRule(program, 2, 0)));
        }
    }

    private static void tellGoal(Leastcode x, int goal, StringBuilder all) {
        for (int p = 0; p < 8; p++) {
            int program = p;
            all.append(told(x, y -> y.wrong(goal, program)));
        }
        for (int i = 0; i < 128; i++) {
            int state = i;
            all.append(told(x, y -> y.setRow(goal, state, 0)));
        }
    }

    private static String tell(Leastcode x, int part) {
        StringBuilder all = new StringBuilder();
        switch (part) {
            case 0:
                tellPrograms(x, all);
                break;
            case 1:
                tellKillsAndRules(x, all);
                break;
            case 2:
                all.append(told(x, y -> y.walk(0, 3, 20)));
                tellPrograms(x, all);
                break;
            default:
                tellGoal(x, part - 3, all);
                break;
        }
        return all.toString();
    }

    private static void report(String what, String got) {
        wrong++;
        System.out.println("promise " + promise + ", \"" + line + "\", " + what + ": " + got);
    }

    /** Of two benches that had the same calls one refuses a call more: it must change nothing. */
    private static void refused(
            String what, Class<? extends Exception> want, Script ahead, Call call) {
        calls++;
        for (int part = 0; part < PARTS; part++) {
            Leastcode one = new Leastcode();
            ahead.on(one);
            String got = told(one, call).trim();
            if (!got.equals(want.getSimpleName())) {
                report(what, got + ", due is " + want.getSimpleName());
                return;
            }
            Leastcode other = new Leastcode();
            ahead.on(other);
            if (!tell(one, part).equals(tell(other, part))) {
                report(what, "something has changed");
                return;
            }
        }
    }

    /** A call with a number of its own, for each of some numbers. */
    private interface Numbered {
        Object on(Leastcode x, int number);
    }

    private static void refusedEach(
            int[] numbers, Class<? extends Exception> want, Script ahead, Numbered call) {
        for (int number : numbers) {
            refused("with " + number, want, ahead, x -> call.on(x, number));
        }
    }

    private static void noProgram(int number, Numbered call) {
        line(number, "IndexOutOfBoundsException if there is no such program");
        noProgramIn(call);
    }

    private static void noProgramIn(Numbered call) {
        refusedEach(NO_PROGRAM, BOUNDS, RICH, call);
        refused("0 of none", BOUNDS, NEW, x -> call.on(x, 0));
        refused("8 of 8", BOUNDS, both(RICH, FILL), x -> call.on(x, 8));
    }

    private static void noGoal(int number, Numbered call) {
        line(number, "IndexOutOfBoundsException if there is no such goal");
        noGoalIn(call);
    }

    private static void noGoalIn(Numbered call) {
        refusedEach(NO_GOAL, BOUNDS, RICH, call);
        refused("0 of none", BOUNDS, Leastcode::addProgram, x -> call.on(x, 0));
        refused("6 of 6", BOUNDS, both(RICH, FILL_GOALS), x -> call.on(x, 6));
    }

    private static void noParts(int number, Numbered call) {
        line(number, "IllegalArgumentException if the parts are not 0 to 7");
        refusedEach(NO_PARTS, ARGUMENT, RICH, call);
    }

    private static void programs() {
        line(2, "IllegalStateException if there are 8");
        refused("a ninth", FULL, both(RICH, FILL), x -> x.addProgram());
        refused("a ninth, of kept ones", FULL, both(RICH, x -> {
            x.keep();
            x.keep();
        }), x -> x.addProgram());
        refused("a ninth, of empty ones", FULL, FILL, x -> x.addProgram());

        noProgram(3, (x, p) -> x.add(p, 'i', 0, 0));
        line(3, "IllegalArgumentException if there is no such kind, or a register that has a "
                + "meaning");
        for (char kind : NO_KIND) {
            refused("kind " + (int) kind, ARGUMENT, RICH, x -> x.add(0, kind, 0, 0));
        }
        for (char kind : BOTH.toCharArray()) {
            refusedEach(NO_REGISTER, ARGUMENT, RICH, (x, r) -> x.add(0, kind, r, 1));
            refusedEach(NO_REGISTER, ARGUMENT, RICH, (x, r) -> x.add(0, kind, 0, r));
            refusedEach(NO_REGISTER, ARGUMENT, RICH, (x, r) -> x.add(0, kind, r, r));
        }
        for (char kind : ALONE.toCharArray()) {
            refusedEach(NO_REGISTER, ARGUMENT, RICH, (x, r) -> x.add(0, kind, r, 0));
        }
        line(3, "IllegalStateException if there are 8");
        refused("a ninth", FULL, both(RICH, FILL_0), x -> x.add(0, 'm', 0, 1));
        refused("a ninth without registers", FULL, both(RICH, FILL_0), x -> x.add(0, 'f', 9, 9));

        noProgram(4, (x, p) -> x.drop(p));
        line(4, "NoSuchElementException if there is none");
        refused("never had one", MISSING, RICH, x -> x.drop(2));
        refused("has none now", MISSING, both(RICH, x -> {
            x.drop(0);
            x.drop(0);
        }), x -> x.drop(0));

        noProgram(5, (x, p) -> x.size(p));

        noProgram(6, (x, p) -> x.at(p, 0));
        line(6, "NoSuchElementException if there is none");
        refusedEach(NO_INDEX, MISSING, RICH, (x, i) -> x.at(0, i));
        refused("of an empty one", MISSING, RICH, x -> x.at(2, 0));
        refused("of a full one", MISSING, both(RICH, FILL_0), x -> x.at(0, 8));
        refused("what was dropped", MISSING, both(RICH, x -> x.drop(0)), x -> x.at(0, 1));

        noProgram(7, (x, p) -> x.run(p, 0));
        line(7, "IllegalArgumentException if there is no such state");
        refusedEach(NO_STATE, ARGUMENT, RICH, (x, s) -> x.run(0, s));
        refusedEach(NO_STATE, ARGUMENT, RICH, (x, s) -> x.run(2, s));
    }

    private static void costs() {
        line(8, "IllegalArgumentException if there is no such kind, or the cost is out of range");
        for (char kind : NO_KIND) {
            refused("kind " + (int) kind, ARGUMENT, RICH, x -> x.price(kind, 3));
        }
        for (char kind : KINDS.toCharArray()) {
            refusedEach(new int[] {-1, 0, 10, LOWEST, HIGHEST}, ARGUMENT, RICH,
                    (x, c) -> x.price(kind, c));
        }

        line(9, "IllegalArgumentException if a number is out of range");
        refusedEach(new int[] {-1, 6, LOWEST, HIGHEST}, ARGUMENT, RICH, (x, c) -> x.setWait(c));

        noProgram(10, (x, p) -> x.cost(p));
        noProgram(11, (x, p) -> x.reads(p));
    }

    private static void living() {
        noProgram(12, (x, p) -> x.lives(p, 0, 7));
        noParts(12, (x, l) -> x.lives(0, 0, l));
        line(12, "NoSuchElementException if there is no such instruction");
        refusedEach(NO_INDEX, MISSING, RICH, (x, i) -> x.lives(0, i, 7));
        refused("of an empty one", MISSING, RICH, x -> x.lives(2, 0, 7));
        refused("of a full one", MISSING, both(RICH, FILL_0), x -> x.lives(0, 8, 7));

        noProgram(13, (x, p) -> x.isDead(p, 0, 7));
        noParts(13, (x, l) -> x.isDead(0, 0, l));
        line(13, "NoSuchElementException if there is no such instruction");
        refusedEach(NO_INDEX, MISSING, RICH, (x, i) -> x.isDead(0, i, 7));
        refused("of an empty one", MISSING, RICH, x -> x.isDead(2, 0, 7));
        refused("of a full one", MISSING, both(RICH, FILL_0), x -> x.isDead(0, 8, 7));

        noProgram(14, (x, p) -> x.sweep(p, 7));
        noParts(14, (x, l) -> x.sweep(3, l));
        noParts(14, (x, l) -> x.sweep(2, l));

        line(15, "IndexOutOfBoundsException if there is no such program, for either");
        noProgramIn((x, p) -> x.isSame(p, 0, 7));
        noProgramIn((x, p) -> x.isSame(0, p, 7));
        noProgramIn((x, p) -> x.isSame(p, p, 7));
        noParts(15, (x, l) -> x.isSame(0, 1, l));
        noParts(15, (x, l) -> x.isSame(0, 0, l));
    }

    private static void goals() {
        noProgram(16, (x, p) -> x.addGoal(p, 7));
        noParts(16, (x, l) -> x.addGoal(0, l));
        line(16, "IllegalStateException if there are 6");
        refused("a seventh", FULL, both(RICH, FILL_GOALS), x -> x.addGoal(1, 3));

        noGoal(17, (x, g) -> x.setRow(g, 3, 4));
        line(17, "IllegalArgumentException if there is no such state");
        refusedEach(NO_STATE, ARGUMENT, RICH, (x, s) -> x.setRow(0, s, 4));
        refusedEach(NO_STATE, ARGUMENT, RICH, (x, s) -> x.setRow(0, 3, s));
        refusedEach(NO_STATE, ARGUMENT, RICH, (x, s) -> x.setRow(0, 5, s));
        refusedEach(NO_STATE, ARGUMENT, RICH, (x, s) -> x.setRow(0, s, s));

        noGoal(18, (x, g) -> x.openRow(g, 3));
        line(18, "IllegalArgumentException if there is no such state");
        refusedEach(NO_STATE, ARGUMENT, RICH, (x, s) -> x.openRow(0, s));
    }

    private static void counterexamples() {
        line(19, "IndexOutOfBoundsException if there is no such goal or program");
        noGoalIn((x, g) -> x.meets(g, 0));
        noProgramIn((x, p) -> x.meets(0, p));
        noProgramIn((x, p) -> x.meets(p, p));

        line(20, "IndexOutOfBoundsException if there is no such goal or program");
        noGoalIn((x, g) -> x.counter(g, 0));
        noProgramIn((x, p) -> x.counter(0, p));
        noProgramIn((x, p) -> x.counter(p, p));
        line(20, "NoSuchElementException if the program meets the goal");
        refused("it does", MISSING, RICH, x -> x.counter(1, 1));
        refused("by open rows alone", MISSING, both(RICH, OPEN_ALL), x -> x.counter(1, 4));
        refused("as nothing lives", MISSING, both(RICH, x -> x.addGoal(0, 0)),
                x -> x.counter(2, 4));

        line(21, "IndexOutOfBoundsException if there is no such goal or program");
        noGoalIn((x, g) -> x.wrong(g, 0));
        noProgramIn((x, p) -> x.wrong(0, p));

        line(22, "IllegalArgumentException if there is no such state");
        refusedEach(NO_STATE, ARGUMENT, RICH, (x, s) -> x.kills(s));

        line(23, "NoSuchElementException if none did");
        refused("of nothing", MISSING, NEW, x -> x.killer());
        refused("all was met", MISSING, x -> {
            x.addProgram();
            x.addGoal(0, 7);
            x.meets(0, 0);
        }, x -> x.killer());
    }

    private static void searches() {
        int[] noMost = {-1, 4, LOWEST, HIGHEST};
        noGoal(24, (x, g) -> x.least(g, 1));
        line(24, "IllegalArgumentException if a number is out of range");
        refusedEach(noMost, ARGUMENT, RICH, (x, m) -> x.least(1, m));
        line(24, "NoSuchElementException if there is none; what was found stays");
        refusedEach(new int[] {0, 1, 2, 3}, MISSING, RICH, (x, m) -> x.least(0, m));
        refused("one more is needed", MISSING, RICH, x -> x.least(1, 1));
        refused("nothing was found", MISSING, NOTHING_FOUND, x -> x.least(0, 0));

        noGoal(25, (x, g) -> x.cheapest(g, 1));
        line(25, "IllegalArgumentException if a number is out of range");
        refusedEach(noMost, ARGUMENT, RICH, (x, m) -> x.cheapest(1, m));
        line(25, "NoSuchElementException if there is none; what was found stays");
        refusedEach(new int[] {0, 1, 2, 3}, MISSING, RICH, (x, m) -> x.cheapest(0, m));
        refused("one more is needed", MISSING, RICH, x -> x.cheapest(1, 1));
        refused("nothing was found", MISSING, NOTHING_FOUND, x -> x.cheapest(0, 0));
    }

    private static void walks() {
        noGoal(26, (x, g) -> x.walk(g, 2, 3));
        line(26, "IllegalArgumentException if a number is out of range");
        refusedEach(new int[] {-1, 0, 5, LOWEST, HIGHEST}, ARGUMENT, RICH,
                (x, n) -> x.walk(0, n, 3));
        refusedEach(new int[] {-1, 0, 201, LOWEST, HIGHEST}, ARGUMENT, RICH,
                (x, n) -> x.walk(0, 2, n));
        refused("nothing was found", ARGUMENT, NOTHING_FOUND, x -> x.walk(0, 1, 0));

        line(27, "IllegalArgumentException if a number is out of range");
        refusedEach(new int[] {-1, 0, 2147483647, LOWEST}, ARGUMENT, RICH, (x, z) -> x.seed(z));
    }

    private static void found() {
        line(28, "NoSuchElementException if nothing was found");
        refused("of nothing", MISSING, NEW, x -> x.foundSize());
        refused("searched without an answer", MISSING, NOTHING_FOUND, x -> x.foundSize());

        line(29, "NoSuchElementException if nothing was found, or it has none there");
        refused("of nothing", MISSING, NEW, x -> x.foundAt(0));
        refused("searched without an answer", MISSING, NOTHING_FOUND, x -> x.foundAt(0));
        refusedEach(new int[] {-1, 3, 4, 8, LOWEST, HIGHEST}, MISSING, RICH,
                (x, i) -> x.foundAt(i));
        refused("of an empty one", MISSING, both(RICH, both(OPEN_ALL, x -> x.least(1, 3))),
                x -> x.foundAt(0));
        refused("of four", MISSING, both(RICH, x -> x.walk(0, 4, 1)), x -> x.foundAt(4));

        line(30, "NoSuchElementException if nothing was found");
        refused("of nothing", MISSING, NEW, x -> x.keep());
        refused("searched without an answer", MISSING, NOTHING_FOUND, x -> x.keep());
        line(30, "IllegalStateException if there are 8");
        refused("a ninth", FULL, both(RICH, FILL), x -> x.keep());
        refused("a ninth, of kept ones", FULL, both(RICH, x -> {
            x.keep();
            x.keep();
        }), x -> x.keep());

        line(31, "IllegalArgumentException if a number is out of range");
        refusedEach(new int[] {-1, 3, LOWEST, HIGHEST}, ARGUMENT, RICH, (x, n) -> x.unlike(n));
    }

    private static void rules() {
        line(32, "IndexOutOfBoundsException if there is no such program, for either");
        noProgramIn((x, p) -> x.addRule(p, 2, 0));
        noProgramIn((x, p) -> x.addRule(1, p, 0));
        noProgramIn((x, p) -> x.addRule(p, p, 0));
        noParts(32, (x, l) -> x.addRule(1, 2, l));
        line(32, "UnsupportedOperationException if the right one has not fewer instructions, they "
                + "are not the same by these parts, or a rule has this left side, as it is told, "
                + "not exchanged");
        refused("itself", UNSUPPORTED, RICH, x -> x.addRule(1, 1, 0));
        refused("both are empty", UNSUPPORTED, RICH, x -> x.addRule(2, 2, 0));
        refused("as many", UNSUPPORTED, RICH, x -> x.addRule(5, 4, 7));
        refused("more", UNSUPPORTED, RICH, x -> x.addRule(4, 3, 7));
        refusedEach(new int[] {1, 3, 4, 5, 6, 7}, UNSUPPORTED, RICH, (x, l) -> x.addRule(1, 2, l));
        refusedEach(new int[] {0, 1, 2, 3, 4, 5, 6, 7}, UNSUPPORTED, RICH,
                (x, l) -> x.addRule(3, 4, l));
        refused("with another right side", UNSUPPORTED, RICH, x -> x.addRule(3, 2, 0));
        line(32, "IllegalStateException if there are 8");
        refused("a ninth", FULL, both(RICH, FILL_RULES), x -> x.addRule(1, 2, 0));

        noProgram(33, (x, p) -> x.rewrite(p, 7));
        noParts(33, (x, l) -> x.rewrite(3, l));
        noParts(33, (x, l) -> x.rewrite(2, l));

        line(34, "IndexOutOfBoundsException if there is no such rule");
        refusedEach(NO_RULE, BOUNDS, RICH, (x, r) -> x.used(r));
        refused("0 of none", BOUNDS, NEW, x -> x.used(0));
        refused("8 of 8", BOUNDS, both(RICH, FILL_RULES), x -> x.used(8));
    }

    private static void shrinking() {
        noProgram(35, (x, p) -> x.shrink(p, 2, 7));
        line(35, "IllegalArgumentException if a number is out of range, or the parts are not 0 to "
                + "7");
        int[] noWindow = {-1, 0, 4, LOWEST, HIGHEST};
        refusedEach(noWindow, ARGUMENT, RICH, (x, w) -> x.shrink(3, w, 7));
        refusedEach(noWindow, ARGUMENT, RICH, (x, w) -> x.shrink(2, w, 7));
        refusedEach(NO_PARTS, ARGUMENT, RICH, (x, l) -> x.shrink(3, 2, l));
        refusedEach(NO_PARTS, ARGUMENT, RICH, (x, l) -> x.shrink(2, 2, l));
    }

    private static void shares() {
        noGoal(37, (x, g) -> x.openShare(g));

        line(38, "ArithmeticException if there are none");
        refused("of none", ARITHMETIC, NEW, x -> x.meanSize());
        refused("once more", ARITHMETIC, x -> told(x, y -> y.meanSize()), x -> x.meanSize());
    }

    /** Of each two exceptions that can apply at once, the one that is listed first. */
    private static void firstListed() {
        promise = 0;
        line = "If several exceptions apply, the one that is listed first is thrown.";
        refused("add: program, kind", BOUNDS, RICH, x -> x.add(6, 'e', 0, 0));
        refused("add: program, register", BOUNDS, RICH, x -> x.add(-1, 'i', 2, 0));
        refused("add: kind, full", ARGUMENT, both(RICH, FILL_0), x -> x.add(0, 'e', 0, 0));
        refused("add: first, full", ARGUMENT, both(RICH, FILL_0), x -> x.add(0, 'i', 2, 0));
        refused("add: second, full", ARGUMENT, both(RICH, FILL_0), x -> x.add(0, 'm', 1, -1));
        refused("at: program, none", BOUNDS, RICH, x -> x.at(6, 9));
        refused("run: program, state", BOUNDS, RICH, x -> x.run(6, 128));
        refused("lives: program, parts", BOUNDS, RICH, x -> x.lives(6, 0, 8));
        refused("lives: program, instruction", BOUNDS, RICH, x -> x.lives(6, 9, 7));
        refused("lives: parts, instruction", ARGUMENT, RICH, x -> x.lives(0, 2, 8));
        refused("lives: parts, instruction of none", ARGUMENT, RICH, x -> x.lives(2, 0, -1));
        refused("isDead: program, parts", BOUNDS, RICH, x -> x.isDead(6, 0, 8));
        refused("isDead: program, instruction", BOUNDS, RICH, x -> x.isDead(6, 9, 7));
        refused("isDead: parts, instruction", ARGUMENT, RICH, x -> x.isDead(0, 2, 8));
        refused("isDead: parts, instruction of none", ARGUMENT, RICH, x -> x.isDead(2, 0, -1));
        refused("sweep: program, parts", BOUNDS, RICH, x -> x.sweep(6, 8));
        refused("isSame: program, parts", BOUNDS, RICH, x -> x.isSame(6, 0, 8));
        refused("isSame: other, parts", BOUNDS, RICH, x -> x.isSame(0, 6, 8));
        refused("addGoal: program, parts", BOUNDS, RICH, x -> x.addGoal(6, 8));
        refused("addGoal: program, full", BOUNDS, both(RICH, FILL_GOALS), x -> x.addGoal(6, 7));
        refused("addGoal: parts, full", ARGUMENT, both(RICH, FILL_GOALS), x -> x.addGoal(0, 8));
        refused("setRow: goal, state", BOUNDS, RICH, x -> x.setRow(2, 128, 0));
        refused("setRow: goal, wanted", BOUNDS, RICH, x -> x.setRow(2, 0, -1));
        refused("openRow: goal, state", BOUNDS, RICH, x -> x.openRow(-1, 128));
        refused("counter: goal, met by none", BOUNDS, RICH, x -> x.counter(2, 1));
        refused("counter: program, met", BOUNDS, both(RICH, OPEN_ALL), x -> x.counter(1, 6));
        refused("least: goal, most", BOUNDS, RICH, x -> x.least(2, 4));
        refused("least: goal, none", BOUNDS, RICH, x -> x.least(-1, 0));
        refused("least: most, none", ARGUMENT, RICH, x -> x.least(0, 4));
        refused("cheapest: goal, most", BOUNDS, RICH, x -> x.cheapest(2, 4));
        refused("cheapest: goal, none", BOUNDS, RICH, x -> x.cheapest(-1, 0));
        refused("cheapest: most, none", ARGUMENT, RICH, x -> x.cheapest(0, -1));
        refused("walk: goal, length", BOUNDS, RICH, x -> x.walk(2, 0, 1));
        refused("walk: goal, steps", BOUNDS, RICH, x -> x.walk(-1, 1, 201));
        refused("keep: nothing, full", MISSING, FILL, x -> x.keep());
        refused("addRule: left, parts", BOUNDS, RICH, x -> x.addRule(6, 2, 8));
        refused("addRule: right, parts", BOUNDS, RICH, x -> x.addRule(1, -1, 8));
        refused("addRule: right, told", BOUNDS, RICH, x -> x.addRule(3, 6, 7));
        refused("addRule: left, full", BOUNDS, both(RICH, FILL_RULES), x -> x.addRule(8, 2, 0));
        refused("addRule: parts, not fewer", ARGUMENT, RICH, x -> x.addRule(2, 2, 8));
        refused("addRule: parts, told", ARGUMENT, RICH, x -> x.addRule(3, 4, -1));
        refused("addRule: parts, full", ARGUMENT, both(RICH, FILL_RULES), x -> x.addRule(1, 2, 8));
        refused("addRule: not fewer, full", UNSUPPORTED, both(RICH, FILL_RULES),
                x -> x.addRule(2, 1, 0));
        refused("addRule: not the same, full", UNSUPPORTED, both(RICH, FILL_RULES),
                x -> x.addRule(1, 2, 7));
        refused("addRule: told, full", UNSUPPORTED, both(RICH, FILL_RULES),
                x -> x.addRule(3, 4, 7));
        refused("rewrite: program, parts", BOUNDS, RICH, x -> x.rewrite(6, 8));
        refused("shrink: program, window", BOUNDS, RICH, x -> x.shrink(6, 0, 7));
        refused("shrink: program, parts", BOUNDS, RICH, x -> x.shrink(-1, 1, 8));
    }
}
