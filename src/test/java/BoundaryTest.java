import java.io.IOException;
import java.nio.charset.StandardCharsets;
import java.nio.file.Files;
import java.nio.file.Path;
import java.util.NoSuchElementException;

/**
 * The sentences of the document that name a boundary case, and of each one a test of its own: the
 * value at the bound and the one beyond it, the empty and the full, the wrap-around.
 *
 * <p>A sentence is told by its words, which must stand in ../shared/DOC.md, and each sentence of
 * its "Terms" must have a test. The exceptions have theirs in RefusalTest, the lowest and the
 * highest answers in AnswerTest.
 */
public final class BoundaryTest {
    private static final Path DOCUMENT = Path.of("../shared/DOC.md");

    private static final Class<? extends Exception> BOUNDS = IndexOutOfBoundsException.class;
    private static final Class<? extends Exception> ARGUMENT = IllegalArgumentException.class;
    private static final Class<? extends Exception> FULL = IllegalStateException.class;
    private static final Class<? extends Exception> MISSING = NoSuchElementException.class;
    private static final Class<? extends Exception> UNSUPPORTED =
            UnsupportedOperationException.class;

    private static final String BOTH = "masnoxkc";
    private static final String ALONE = "idlrtzb";
    private static final String KINDS = BOTH + ALONE + "f";

    private static String document;
    private static boolean[] isTold;
    private static String sentence = "";
    private static int sentences = 0;
    private static int checks = 0;
    private static int wrong = 0;

    private interface Call {
        Object answer();
    }

    public static void main(String[] args) throws IOException {
        document = Files.readString(DOCUMENT, StandardCharsets.UTF_8).replaceAll("\\s+", " ");
        isTold = new boolean[document.length()];
        calls();
        machine();
        bothRegisters();
        oneRegister();
        order();
        reading();
        writing();
        programs();
        costs();
        living();
        sweeping();
        goals();
        rows();
        counterexamples();
        wrongBits();
        least();
        cheapest();
        found();
        alike();
        unlike();
        ruleSides();
        exchangedRules();
        rewriting();
        shrinking();
        lots();
        walking();
        sums();
        allTermsAreTold();
        System.out.println(sentences + " sentences, " + checks + " checks, " + wrong + " wrong");
        if (wrong != 0) {
            System.exit(1);
        }
    }

    /** The sentence, or the part of one, that the checks behind this are of. */
    private static void sentence(String words) {
        sentence = words;
        sentences++;
        int at = document.indexOf(words);
        if (at < 0) {
            wrong++;
            System.out.println("the document does not say: " + words);
        }
        for (int i = 0; at >= 0 && i < words.length(); i++) {
            isTold[at + i] = true;
        }
    }

    private static void allTermsAreTold() {
        int at = document.indexOf("## Terms") + "## Terms".length();
        int end = document.indexOf("Exceptions. A method that throws");
        while (at < end) {
            int stop = document.indexOf(". ", at);
            boolean told = false;
            for (int i = at; i < stop; i++) {
                told |= isTold[i];
            }
            // The name of a section stands ahead of it as one word.
            if (!told && document.substring(at, stop).trim().contains(" ")
                    && stop - at > "Reading and writing.".length()) {
                wrong++;
                System.out.println("no test of: " + document.substring(at, stop).trim());
            }
            at = stop + 2;
        }
    }

    private static void due(String what, Object want, Call call) {
        checks++;
        Object got;
        try {
            got = call.answer();
        } catch (RuntimeException e) {
            got = e.getClass();
        }
        if (!want.equals(got)) {
            wrong++;
            System.out.println("\"" + sentence + "\", " + what + ": " + got + ", due is " + want);
        }
    }

    /** A bench with a program each out of words such as "a01 r0 f". */
    private static Leastcode bench(String... programs) {
        Leastcode x = new Leastcode();
        for (String words : programs) {
            program(x, words);
        }
        return x;
    }

    private static int program(Leastcode x, String words) {
        int number = x.addProgram();
        for (String word : words.split(" ")) {
            if (!word.isEmpty()) {
                int first = word.length() > 1 ? word.charAt(1) - '0' : 0;
                int second = word.length() > 2 ? word.charAt(2) - '0' : 0;
                x.add(number, word.charAt(0), first, second);
            }
        }
        return number;
    }

    private static String text(Leastcode x, int program) {
        StringBuilder all = new StringBuilder();
        for (int i = 0; i < x.size(program); i++) {
            all.append(i == 0 ? "" : " ").append(x.at(program, i));
        }
        return all.toString();
    }

    private static String found(Leastcode x) {
        StringBuilder all = new StringBuilder();
        for (int i = 0; i < x.foundSize(); i++) {
            all.append(i == 0 ? "" : " ").append(x.foundAt(i));
        }
        return all.toString();
    }

    private static int state(int zero, int one, int flag) {
        return 16 * zero + 2 * one + flag;
    }

    private static String told(int state) {
        return state / 16 + " " + state / 2 % 8 + " " + state % 2;
    }

    /** What a program makes of a state, both told as register 0, register 1 and flag. */
    private static void goes(String words, int zero, int one, int flag, String want) {
        Leastcode x = bench(words);
        due(words + " from " + zero + " " + one + " " + flag, want,
                () -> told(x.run(0, state(zero, one, flag))));
    }

    private static String times(String word, int count) {
        return (word + " ").repeat(count).trim();
    }

    /** All instructions as words, by the order. */
    private static String[] instructions() {
        String[] all = new String[47];
        int count = 0;
        for (char kind : BOTH.toCharArray()) {
            for (String registers : new String[] {"00", "01", "10", "11"}) {
                all[count++] = kind + registers;
            }
        }
        for (char kind : ALONE.toCharArray()) {
            all[count++] = kind + "0";
            all[count++] = kind + "1";
        }
        all[count] = "f";
        return all;
    }

    private static int first(String word) {
        return word.length() > 1 ? 1 << word.charAt(1) - '0' : 0;
    }

    private static int second(String word) {
        return word.length() > 2 ? 1 << word.charAt(2) - '0' : 0;
    }

    private static int readBy(String word) {
        switch (word.charAt(0)) {
            case 'm': return second(word);
            case 'z': return 0;
            case 'f': return 4;
            case 'b': return first(word) | 4;
            case 'c': return first(word) | second(word) | 4;
            default: return first(word) | second(word);
        }
    }

    private static int writtenBy(String word) {
        switch (word.charAt(0)) {
            case 'k': case 'f': return 4;
            case 'a': case 's': case 'l': case 'r': return first(word) | 4;
            default: return first(word);
        }
    }

    private static void calls() {
        sentence("An object is used for at most 512 calls after it has been made");
        Leastcode x = bench("i0", "");
        x.addGoal(0, 7);
        for (int call = 5; call <= 511; call++) {
            x.meets(0, 1);
        }
        due("the call 512", 507, () -> x.kills(0));
    }

    private static void machine() {
        sentence("It has the registers 0 and 1, words from 0 to 7, reckoned modulo 8, and a flag, "
                + "0 or 1.");
        goes("i0", 6, 3, 0, "7 3 0");
        goes("i0", 7, 3, 0, "0 3 0");
        goes("i1", 7, 7, 1, "7 0 1");
        goes("d0", 1, 3, 1, "0 3 1");
        goes("d0", 0, 3, 1, "7 3 1");
        goes("d1", 0, 0, 0, "0 7 0");
        goes("f", 7, 7, 0, "7 7 1");
        goes("f", 7, 7, 1, "7 7 0");
        Leastcode round = bench(times("i0", 8), times("d1", 8), "", times("i0", 7), "d0");
        due("8 more is nothing", true, () -> round.isSame(0, 2, 7));
        due("8 less is nothing", true, () -> round.isSame(1, 2, 7));
        due("7 more is 1 less", true, () -> round.isSame(3, 4, 7));

        sentence("A state is told as 16 times the register 0, 2 times the register 1, and the "
                + "flag, summed up, from 0 to 127.");
        Leastcode x = bench("", "i0", "i1", "f");
        for (int state = 0; state < 128; state++) {
            int s = state;
            due("stays " + s, s, () -> x.run(0, s));
        }
        due("register 0", 16, () -> x.run(1, 0));
        due("register 1", 2, () -> x.run(2, 0));
        due("flag", 1, () -> x.run(3, 0));
        due("register 0 of the highest", 127 - 112, () -> x.run(1, 127));
        due("register 1 of the highest", 127 - 14, () -> x.run(2, 127));
        due("flag of the highest", 126, () -> x.run(3, 127));
        due("-1", ARGUMENT, () -> x.run(0, -1));
        due("128", ARGUMENT, () -> x.run(0, 128));

        sentence("An instruction has a kind, and registers, first and second, as far as they have "
                + "a meaning.");
        for (char kind : KINDS.toCharArray()) {
            boolean both = BOTH.indexOf(kind) >= 0;
            boolean one = both || kind != 'f';
            for (int none : new int[] {-1, 2, Integer.MIN_VALUE, Integer.MAX_VALUE}) {
                Leastcode y = bench("");
                due(kind + " of first " + none, one ? ARGUMENT : (Object) 1,
                        () -> y.add(0, kind, none, 0));
                Leastcode z = bench("");
                due(kind + " of second " + none, both ? ARGUMENT : (Object) 1,
                        () -> z.add(0, kind, 1, none));
            }
        }

        sentence("What is not told stays.");
        for (String word : instructions()) {
            Leastcode y = bench(word);
            int written = writtenBy(word);
            int stays = ((written & 1) == 0 ? 112 : 0) | ((written & 2) == 0 ? 14 : 0)
                    | ((written & 4) == 0 ? 1 : 0);
            for (int state = 0; state < 128; state++) {
                int s = state;
                due(word + " from " + s, s & stays, () -> y.run(0, s) & stays);
            }
        }
    }

    private static void bothRegisters() {
        sentence("'m' the first becomes the second;");
        goes("m01", 0, 7, 1, "7 7 1");
        goes("m10", 0, 7, 0, "0 0 0");
        goes("m00", 7, 0, 1, "7 0 1");

        sentence("'a' both are summed up in the first, the flag being whether that is above 7;");
        goes("a01", 0, 0, 1, "0 0 0");
        goes("a01", 3, 4, 1, "7 4 0");
        goes("a01", 4, 4, 0, "0 4 1");
        goes("a10", 7, 7, 0, "7 6 1");
        goes("a10", 1, 7, 0, "1 0 1");
        goes("a00", 3, 7, 1, "6 7 0");
        goes("a00", 4, 7, 0, "0 7 1");
        goes("a11", 7, 7, 0, "7 6 1");

        sentence("'s' the second is taken from the first, the flag being whether the first was "
                + "less;");
        goes("s01", 0, 0, 1, "0 0 0");
        goes("s01", 3, 3, 1, "0 3 0");
        goes("s01", 2, 3, 0, "7 3 1");
        goes("s01", 0, 7, 0, "1 7 1");
        goes("s10", 0, 7, 1, "0 7 0");
        goes("s10", 7, 0, 0, "7 1 1");
        goes("s00", 7, 0, 1, "0 0 0");
        goes("s11", 7, 7, 1, "7 0 0");

        sentence("'n', 'o', 'x' bits of both by and, or, one alone, in the first;");
        goes("n01", 7, 0, 1, "0 0 1");
        goes("n10", 7, 7, 0, "7 7 0");
        goes("o01", 0, 0, 1, "0 0 1");
        goes("o10", 7, 0, 0, "7 7 0");
        goes("x01", 7, 7, 1, "0 7 1");
        goes("x10", 7, 0, 0, "7 7 0");
        goes("n00", 7, 0, 0, "7 0 0");
        goes("o11", 0, 7, 0, "0 7 0");
        goes("x11", 7, 7, 1, "7 0 1");
        goes("n01", 6, 3, 0, "2 3 0");
        goes("o01", 6, 3, 0, "7 3 0");
        goes("x01", 6, 3, 0, "5 3 0");

        sentence("'k' the flag is whether the first is less than the second;");
        goes("k01", 0, 0, 1, "0 0 0");
        goes("k01", 0, 1, 0, "0 1 1");
        goes("k01", 7, 7, 1, "7 7 0");
        goes("k01", 7, 6, 1, "7 6 0");
        goes("k10", 0, 7, 1, "0 7 0");
        goes("k10", 7, 0, 0, "7 0 1");
        goes("k00", 7, 0, 1, "7 0 0");
        goes("k11", 0, 7, 1, "0 7 0");

        sentence("'c' the first becomes the second, if the flag is 1.");
        goes("c01", 0, 7, 0, "0 7 0");
        goes("c01", 0, 7, 1, "7 7 1");
        goes("c10", 0, 7, 0, "0 7 0");
        goes("c10", 0, 7, 1, "0 0 1");
        goes("c00", 7, 0, 1, "7 0 1");
    }

    private static void oneRegister() {
        sentence("With the first alone: 'i' 1 more, 'd' 1 less,");
        goes("i0", 0, 5, 1, "1 5 1");
        goes("i0", 7, 5, 0, "0 5 0");
        goes("i1", 5, 7, 0, "5 0 0");
        goes("d0", 7, 5, 1, "6 5 1");
        goes("d0", 0, 5, 0, "7 5 0");
        goes("d1", 5, 0, 0, "5 7 0");

        sentence("'l' twice, the flag being whether that is above 7,");
        goes("l0", 0, 5, 1, "0 5 0");
        goes("l0", 3, 5, 1, "6 5 0");
        goes("l0", 4, 5, 0, "0 5 1");
        goes("l1", 5, 7, 0, "5 6 1");

        sentence("'r' half, cut, the flag being the rest,");
        goes("r0", 0, 5, 1, "0 5 0");
        goes("r0", 1, 5, 0, "0 5 1");
        goes("r0", 2, 5, 1, "1 5 0");
        goes("r1", 5, 7, 0, "5 3 1");

        sentence("'t' 7 less it, 'z' 0, 'b' more by the flag.");
        goes("t0", 0, 5, 1, "7 5 1");
        goes("t0", 7, 5, 0, "0 5 0");
        goes("t1", 5, 3, 0, "5 4 0");
        goes("z0", 7, 5, 1, "0 5 1");
        goes("z1", 0, 0, 0, "0 0 0");
        goes("b0", 7, 5, 0, "7 5 0");
        goes("b0", 6, 5, 1, "7 5 1");
        goes("b0", 7, 5, 1, "0 5 1");
        goes("b1", 5, 7, 1, "5 0 1");

        sentence("'f' turns the flag about.");
        goes("f", 0, 0, 0, "0 0 1");
        goes("f", 0, 0, 1, "0 0 0");
        goes("f f", 7, 7, 1, "7 7 1");
    }

    private static void order() {
        sentence("Instructions are in an order: by kinds, as told here, then by the first "
                + "register, then by the second; there are 47.");
        String[] all = instructions();
        for (int i = 0; i < all.length; i++) {
            int number = i;
            Leastcode x = bench(all[i]);
            due(all[i], number, () -> x.at(0, 0));
        }
        due("how many", 47, () -> all.length);
        due("the first one", "m00", () -> all[0]);
        due("the last one", "f", () -> all[46]);
    }

    /** Whether the second of two instructions waits for the first one. */
    private static boolean waits(String words) {
        Leastcode x = bench(words);
        x.setWait(5);
        return x.cost(0) == 7;
    }

    private static void reading() {
        sentence("'m' reads the second register, 'z' nothing, 'f' the flag, 'b' the first one and "
                + "the flag, 'c' both and the flag; the others read all registers that have a "
                + "meaning.");
        for (String word : instructions()) {
            int read = readBy(word);
            due(word + " reads the register 0", (read & 1) != 0, () -> waits("i0 " + word));
            due(word + " reads the register 1", (read & 2) != 0, () -> waits("i1 " + word));
            due(word + " reads the flag", (read & 4) != 0, () -> waits("f " + word));
            Leastcode x = bench(word);
            due(word + " among all that lives", 7 & ~writtenBy(word) | read, () -> x.reads(0));
        }
    }

    private static void writing() {
        sentence("'k' and 'f' write the flag, 'a', 's', 'l' and 'r' the first register and the "
                + "flag, the others the first register.");
        for (String word : instructions()) {
            int written = writtenBy(word);
            due(word + " writes the register 0", (written & 1) != 0, () -> waits(word + " m10"));
            due(word + " writes the register 1", (written & 2) != 0, () -> waits(word + " m01"));
            due(word + " writes the flag", (written & 4) != 0, () -> waits(word + " f"));
        }

        sentence("Parts are told as bits: 1 the register 0, 2 the register 1, 4 the flag.");
        Leastcode x = bench("i0", "i1", "f");
        for (int parts = 0; parts < 8; parts++) {
            int p = parts;
            due("register 0 in " + p, p % 2 == 0, () -> x.isDead(0, 0, p));
            due("register 1 in " + p, p / 2 % 2 == 0, () -> x.isDead(1, 0, p));
            due("flag in " + p, p / 4 == 0, () -> x.isDead(2, 0, p));
        }
        due("-1", ARGUMENT, () -> x.isDead(0, 0, -1));
        due("8", ARGUMENT, () -> x.isDead(0, 0, 8));
    }

    private static void programs() {
        sentence("At most 8 are numbered from 0, each of at most 8 instructions.");
        Leastcode x = new Leastcode();
        for (int i = 0; i < 8; i++) {
            int number = i;
            due("number " + i, number, () -> x.addProgram());
        }
        due("the ninth", FULL, () -> x.addProgram());
        for (int p = 0; p < 8; p++) {
            int program = p;
            due(p + " is empty", 0, () -> x.size(program));
            for (int i = 1; i <= 8; i++) {
                int count = i;
                due(p + " of " + i, count, () -> x.add(program, 'i', 0, 0));
            }
            due(p + " of 9", FULL, () -> x.add(program, 'i', 0, 0));
            due(p + " is full", 8, () -> x.size(program));
            due(p + ", its last one", 32, () -> x.at(program, 7));
            due(p + ", one beyond", MISSING, () -> x.at(program, 8));
        }
        due("no program 8", BOUNDS, () -> x.size(8));
        due("no program -1", BOUNDS, () -> x.size(-1));
        due("one less", 7, () -> x.drop(7));
        due("full again", 8, () -> x.add(7, 'f', 0, 0));
        due("the last is another one", 46, () -> x.at(7, 7));
        for (int left = 7; left >= 0; left--) {
            int count = left;
            due("down to " + left, count, () -> x.drop(0));
        }
        due("below none", MISSING, () -> x.drop(0));
        due("still 8 programs", FULL, () -> x.addProgram());
        due("eight by eight run", state(0, 0, 0), () -> x.run(1, 0));
    }

    private static void costs() {
        sentence("A kind costs 1 at first, or as told, 1 to 9;");
        for (char kind : KINDS.toCharArray()) {
            Leastcode x = bench(kind + "00");
            due(kind + " at first", 1, () -> x.cost(0));
            due(kind + " of 0", ARGUMENT, () -> x.price(kind, 0));
            due(kind + " of 10", ARGUMENT, () -> x.price(kind, 10));
            due(kind + " of -1", ARGUMENT, () -> x.price(kind, -1));
            due(kind + " to 9", 1, () -> x.price(kind, 9));
            due(kind + " costs 9", 9, () -> x.cost(0));
            due(kind + " to 1", 9, () -> x.price(kind, 1));
            due(kind + " costs 1", 1, () -> x.cost(0));
            for (char other : KINDS.toCharArray()) {
                due(kind + " and not " + other, 1, () -> x.price(other, 2));
            }
            due(kind + " costs 2", 2, () -> x.cost(0));
        }

        sentence("and one wait, 0 to 5, 0 at first,");
        Leastcode x = bench("f f");
        due("no wait at first", 2, () -> x.cost(0));
        due("-1", ARGUMENT, () -> x.setWait(-1));
        due("6", ARGUMENT, () -> x.setWait(6));
        due("0 before", 0, () -> x.setWait(5));
        due("a wait of 5", 7, () -> x.cost(0));
        due("5 before", 5, () -> x.setWait(0));
        due("a wait of 0", 2, () -> x.cost(0));

        sentence("a program costs as much as its instructions,");
        Leastcode y = bench("", "f", times("f", 8), times("z0", 8), "z0 f");
        y.setWait(5);
        y.price('f', 9);
        due("empty", 0, () -> y.cost(0));
        due("of one", 9, () -> y.cost(1));
        due("full, with waits", 8 * 9 + 7 * 5, () -> y.cost(2));
        due("full, without", 8, () -> y.cost(3));
        due("of two kinds", 10, () -> y.cost(4));

        sentence("for each that reads something that the one ahead of it writes.");
        due("the first one has none ahead", false, () -> waits("i0"));
        due("it reads what is written", true, () -> waits("i0 i0"));
        due("it reads another part", false, () -> waits("i0 i1"));
        due("it writes what is written", false, () -> waits("i0 z0"));
        due("it writes what is read", false, () -> waits("m10 z0"));
        Leastcode z = bench("i0 i1 i0", "a01 b0", "a00 b0 b0", "k01 f f");
        z.setWait(5);
        due("not the one ahead of that", 3, () -> z.cost(0));
        due("one wait for two parts", 7, () -> z.cost(1));
        due("two in a row", 3 + 10, () -> z.cost(2));
        due("the flag", 3 + 10, () -> z.cost(3));
    }

    private static void living() {
        sentence("Some parts live at the end of a program.");
        Leastcode x = bench("", "i0", times("i0", 8));
        for (int parts = 0; parts < 8; parts++) {
            int p = parts;
            due("behind the only one " + p, p, () -> x.lives(1, 0, p));
            due("behind the eighth " + p, p, () -> x.lives(2, 7, p));
        }
        due("ahead of none", 7, () -> x.reads(0));
        due("behind none", MISSING, () -> x.lives(0, 0, 7));
        due("parts 8", ARGUMENT, () -> x.lives(1, 0, 8));
        due("parts -1", ARGUMENT, () -> x.lives(1, 0, -1));

        sentence("Ahead of an instruction there live those that live behind it, but those that it "
                + "writes, and, if it writes some that live behind it, those that it reads.");
        Leastcode y = bench("i0 k01", "i0 m10", "i0 a10", "i0 z0", "i0 c01", "i0 b0", "i0 f");
        due("it writes none: as behind", 2, () -> y.lives(0, 0, 2));
        due("it writes one: what it reads", 3, () -> y.lives(0, 0, 4));
        due("m, dead", 1, () -> y.lives(1, 0, 1));
        due("m, one for another", 1, () -> y.lives(1, 0, 2));
        due("m, both", 1, () -> y.lives(1, 0, 3));
        due("a, for its flag alone", 3, () -> y.lives(2, 0, 4));
        due("a, dead", 1, () -> y.lives(2, 0, 1));
        due("z, all but its register", 6, () -> y.lives(3, 0, 7));
        due("c, its register stays", 7, () -> y.lives(4, 0, 1));
        due("b, its register stays", 5, () -> y.lives(5, 0, 1));
        due("f, the flag stays", 4, () -> y.lives(6, 0, 4));
        due("nothing lives", 0, () -> y.lives(6, 0, 0));
        Leastcode z = bench("z0 z1 k00", times("a01", 8));
        due("nothing is read", 0, () -> z.reads(0));
        due("through eight", 3, () -> z.reads(1));
        due("behind the first of eight", 3, () -> z.lives(1, 0, 1));
        due("behind the first of three", 6 | 1, () -> bench("z0 b0 i1").lives(0, 0, 7));
        due("ahead of it", 6, () -> bench("z0 b0 i1").reads(0));
        due("behind the first, though it reads another", 1, () -> bench("m01 i0").lives(0, 0, 1));

        sentence("An instruction is dead if it writes none that live behind it.");
        for (String word : instructions()) {
            Leastcode w = bench(word);
            for (int parts = 0; parts < 8; parts++) {
                int p = parts;
                due(word + " for " + p, (writtenBy(word) & p) == 0, () -> w.isDead(0, 0, p));
            }
        }
        Leastcode v = bench("i0 z0", "i0 m10 z1", times("f", 8));
        due("written over", true, () -> v.isDead(0, 0, 7));
        due("read by a dead one alone", true, () -> v.isDead(1, 0, 2));
        due("the first of eight", false, () -> v.isDead(2, 0, 4));
        due("the eighth", false, () -> v.isDead(2, 7, 4));
        due("the eighth, dead", true, () -> v.isDead(2, 7, 3));
        due("a ninth", MISSING, () -> v.isDead(2, 8, 7));
        due("below the first", MISSING, () -> v.isDead(2, -1, 7));
    }

    private static void sweeping() {
        sentence("To sweep a program takes the last dead one away, again and again, until there is "
                + "none.");
        Leastcode x = bench("", times("i0", 8), times("i0", 8), times("z0", 8), "i0",
                "i0 m10 l1 z1 i0 f", "f z0 i1 k01 f a01 m10 k01");
        due("empty", 0, () -> x.sweep(0, 7));
        due("full, none is dead", 8, () -> x.sweep(1, 1));
        due("full, all are dead", 0, () -> x.sweep(2, 6));
        due("full, but the last", 1, () -> x.sweep(3, 7));
        due("one, which lives", 1, () -> x.sweep(4, 1));
        due("one, which is dead", 0, () -> x.sweep(4, 2));
        due("read by dead ones", 3, () -> x.sweep(5, 3));
        due("is left", "32 43 32", () -> text(x, 5));
        due("from both ends", 5, () -> x.sweep(6, 7));
        due("is left of that", "42 33 5 2 25", () -> text(x, 6));
        due("once more", 5, () -> x.sweep(6, 7));
        due("nothing lives", 0, () -> x.sweep(6, 0));
    }

    private static void goals() {
        sentence("At most 6 are numbered from 0, each of a program, as it is then, for parts that "
                + "live at the end:");
        Leastcode x = bench("i0", "d0");
        due("no goal", BOUNDS, () -> x.openShare(0));
        for (int i = 0; i < 6; i++) {
            int number = i;
            due("number " + i, number, () -> x.addGoal(0, 7));
        }
        due("the seventh", FULL, () -> x.addGoal(0, 7));
        due("the sixth is one", true, () -> x.meets(5, 0));
        due("no goal 6", BOUNDS, () -> x.meets(6, 0));
        due("no goal -1", BOUNDS, () -> x.meets(-1, 0));
        x.add(0, 'd', 0, 0);
        x.add(0, 'd', 0, 0);
        due("not as it is now", false, () -> x.meets(0, 0));
        x.drop(0);
        x.drop(0);
        due("as it was", true, () -> x.meets(0, 0));
        Leastcode y = bench("", "i0", "i1", "f");
        for (int parts = 0; parts < 8; parts++) {
            int p = parts;
            Leastcode z = bench("", "i0", "i1", "f");
            z.addGoal(0, p);
            due("register 0 by " + p, p % 2 == 0, () -> z.meets(0, 1));
            due("register 1 by " + p, p / 2 % 2 == 0, () -> z.meets(0, 2));
            due("flag by " + p, p / 4 == 0, () -> z.meets(0, 3));
        }
        due("parts -1", ARGUMENT, () -> y.addGoal(0, -1));
        due("parts 8", ARGUMENT, () -> y.addGoal(0, 8));

        sentence("of each state what comes of it;");
        Leastcode z = bench("i0 i1 f");
        z.addGoal(0, 0);
        for (int state = 0; state < 128; state++) {
            int s = state;
            due("of " + s, state((s / 16 + 1) % 8, (s / 2 + 1) % 8, 1 - s % 2),
                    () -> z.setRow(0, s, 0));
        }
    }

    private static void rows() {
        sentence("a row, a state, can be told to become another one, or be open, so that all will "
                + "do.");
        Leastcode x = bench("", "t0 t1 f");
        x.addGoal(0, 7);
        for (int state : new int[] {0, 1, 126, 127}) {
            due("of " + state, state, () -> x.setRow(0, state, 127 - state));
            due("again of " + state, 127 - state, () -> x.setRow(0, state, state));
            due(state + " is not open", false, () -> x.openRow(0, state));
            due(state + " is open", true, () -> x.openRow(0, state));
            due(state + " was open", -1, () -> x.setRow(0, state, 127));
            due(state + " is not open now", 127, () -> x.setRow(0, state, 0));
            due(state + " to the lowest", 0, () -> x.setRow(0, state, state));
        }
        due("all is as it was", true, () -> x.meets(0, 0));
        due("state -1", ARGUMENT, () -> x.setRow(0, -1, 0));
        due("state 128", ARGUMENT, () -> x.setRow(0, 128, 0));
        due("wanted -1", ARGUMENT, () -> x.setRow(0, 0, -1));
        due("wanted 128", ARGUMENT, () -> x.setRow(0, 0, 128));
        due("open -1", ARGUMENT, () -> x.openRow(0, -1));
        due("open 128", ARGUMENT, () -> x.openRow(0, 128));
        for (int state = 0; state < 128; state++) {
            x.openRow(0, state);
        }
        due("all open: it meets", true, () -> x.meets(0, 1));
        due("all open: none is wrong", 0, () -> x.wrong(0, 1));
        due("all open: nothing will do", 0, () -> x.least(0, 0));
        due("all open: for nothing", 0, () -> x.cheapest(0, 0));
        due("all open: a walk", 0, () -> x.walk(0, 1, 1));
        due("all open: the share", 1.0f, () -> x.openShare(0));
    }

    private static void counterexamples() {
        sentence("A program meets a goal if, from all states whose rows are not open, the parts "
                + "that live are as wanted.");
        for (int state : new int[] {0, 127}) {
            Leastcode x = bench("");
            x.addGoal(0, 7);
            x.addGoal(0, 1);
            x.setRow(0, state, state ^ 1);
            x.setRow(1, state, state ^ 15);
            due(state + " alone is not as wanted", false, () -> x.meets(0, 0));
            due(state + " is not in parts that do not live", true, () -> x.meets(1, 0));
            x.setRow(1, state, state ^ 16);
            due(state + " is not in one that lives", false, () -> x.meets(1, 0));
            x.openRow(0, state);
            due(state + " is open", true, () -> x.meets(0, 0));
        }
        Leastcode all = bench("", "t0 t1 f");
        all.addGoal(0, 0);
        due("nothing lives", true, () -> all.meets(0, 1));

        sentence("A counterexample is the lowest state from which they are not;");
        Leastcode x = bench("", "c01", "t0");
        x.addGoal(0, 7);
        due("the lowest of all", 0, () -> x.counter(0, 2));
        due("the lowest of some", 3, () -> x.counter(0, 1));
        due("none", MISSING, () -> x.counter(0, 0));
        for (int state = 0; state < 127; state++) {
            x.openRow(0, state);
        }
        due("the highest alone", 127, () -> x.counter(0, 2));
        x.openRow(0, 127);
        due("all are open", MISSING, () -> x.counter(0, 2));

        sentence("it has killed the program then, once each time that a counterexample is asked, "
                + "or whether it meets; by nothing else.");
        Leastcode y = bench("", "i0");
        y.addGoal(0, 7);
        y.addGoal(1, 7);
        due("none at first", 0, () -> y.kills(0));
        due("nor the highest", 0, () -> y.kills(127));
        due("nor one most often", MISSING, () -> y.killer());
        y.meets(0, 0);
        due("it meets", MISSING, () -> y.counter(0, 0));
        due("none by what is met", MISSING, () -> y.killer());
        y.wrong(0, 1);
        due("a search without an answer", MISSING, () -> y.least(1, 0));
        due("one with an answer", 1, () -> y.least(1, 3));
        y.cheapest(0, 1);
        y.walk(0, 2, 9);
        y.isSame(0, 1, 7);
        y.shrink(1, 3, 7);
        y.rewrite(1, 7);
        y.openShare(0);
        due("none by anything else", MISSING, () -> y.killer());
        due("asked", 0, () -> y.counter(0, 1));
        due("once", 1, () -> y.kills(0));
        due("once is most often", 0, () -> y.killer());
        due("asked whether", false, () -> y.meets(0, 1));
        due("twice", 2, () -> y.kills(0));
        due("no other", 0, () -> y.kills(1));
        due("refused", BOUNDS, () -> y.meets(0, 2));
        due("refused too", BOUNDS, () -> y.counter(2, 1));
        due("still twice", 2, () -> y.kills(0));
        due("-1", ARGUMENT, () -> y.kills(-1));
        due("128", ARGUMENT, () -> y.kills(128));

        sentence("Returns the state, of like ones the lowest.");
        for (int state = 0; state < 127; state++) {
            y.openRow(0, state);
        }
        y.counter(0, 1);
        due("the lowest killed more", 0, () -> y.killer());
        y.counter(0, 1);
        due("as often", 0, () -> y.killer());
        y.counter(0, 1);
        due("the highest killed more", 127, () -> y.killer());
        due("the highest thrice", 3, () -> y.kills(127));
    }

    private static void wrongBits() {
        sentence("Wrong bits are counted over all such rows and parts, a register having three.");
        Leastcode x = bench("", "t0", "t1", "f", "t0 t1 f");
        x.addGoal(0, 7);
        due("none", 0, () -> x.wrong(0, 0));
        due("register 0", 128 * 3, () -> x.wrong(0, 1));
        due("register 1", 128 * 3, () -> x.wrong(0, 2));
        due("flag", 128, () -> x.wrong(0, 3));
        due("all", 128 * 7, () -> x.wrong(0, 4));
        for (int parts = 0; parts < 8; parts++) {
            int p = parts;
            Leastcode y = bench("", "t0 t1 f");
            y.addGoal(0, p);
            due("of " + p, 128 * (p % 2 * 3 + p / 2 % 2 * 3 + p / 4), () -> y.wrong(0, 1));
        }
        x.setRow(0, 0, 1);
        due("one bit of the lowest row", 1, () -> x.wrong(0, 0));
        x.setRow(0, 127, 0);
        due("and all of the highest", 8, () -> x.wrong(0, 0));
        x.openRow(0, 0);
        due("the lowest is open", 7, () -> x.wrong(0, 0));
        x.openRow(0, 127);
        due("both are open", 0, () -> x.wrong(0, 0));
    }

    private static void least() {
        sentence("The least program of a goal, of at most 3 instructions, is found by trying all "
                + "of each length, from 0 on,");
        Leastcode x = bench("", "m01", "f b1", "m01 i0 f", times("i0", 4));
        for (int p = 0; p < 5; p++) {
            x.addGoal(p, 7);
        }
        due("-1", ARGUMENT, () -> x.least(0, -1));
        due("4", ARGUMENT, () -> x.least(0, 4));
        for (int length = 0; length <= 3; length++) {
            int n = length;
            for (int most = 0; most <= 3; most++) {
                int m = most;
                due(n + " of at most " + m, m < n ? MISSING : (Object) n, () -> x.least(n, m));
            }
        }
        due("four are too many", MISSING, () -> x.least(4, 3));
        due("the last found stays", "1 32 46", () -> found(x));
        String[] byParts = {"", "40", "41", "40 41", "46", "40 46", "41 46", "40 41 46"};
        for (int parts = 0; parts < 8; parts++) {
            int p = parts;
            int n = Integer.bitCount(p);
            Leastcode y = bench("t0 t1 f");
            y.addGoal(0, p);
            due("by " + p + ", of at most 3", n, () -> y.least(0, 3));
            due("by " + p + ", as found", byParts[p], () -> found(y));
            due("by " + p + ", as cheap", n, () -> y.cheapest(0, 3));
            due("by " + p + ", as found so", byParts[p], () -> found(y));
            due("by " + p + ", of at most one less", n == 0 ? ARGUMENT : (Object) MISSING,
                    () -> y.least(0, n - 1));
        }

        sentence("in the order of their first instructions, then of the second ones, and so on: "
                + "the first that meets it.");
        Leastcode y = bench("f i0", "f b1", "i1 i0 f", "m01", "f");
        for (int p = 0; p < 5; p++) {
            y.addGoal(p, 7);
        }
        y.least(0, 3);
        due("the other way round", "32 46", () -> found(y));
        y.least(1, 3);
        due("with the last one of all first", "46 45", () -> found(y));
        y.least(2, 3);
        due("of all ways round", "32 33 46", () -> found(y));
        y.least(3, 3);
        due("one of the first", "1", () -> found(y));
        y.least(4, 3);
        due("the last one", "46", () -> found(y));
        for (int state = 0; state < 128; state++) {
            y.openRow(3, state);
        }
        y.setRow(3, 127, 127);
        y.least(3, 3);
        due("nothing is the first of all", "", () -> found(y));
        y.setRow(3, 127, state(0, 0, 1));
        y.least(3, 3);
        due("the first two that do", "20 2", () -> found(y));
    }

    private static void cheapest() {
        sentence("The cheapest one is that of all up to a length with the least cost,");
        Leastcode x = bench("i0", "f b1", "");
        for (int p = 0; p < 3; p++) {
            x.addGoal(p, 7);
        }
        due("-1", ARGUMENT, () -> x.cheapest(0, -1));
        due("4", ARGUMENT, () -> x.cheapest(0, 4));
        due("none of 0", MISSING, () -> x.cheapest(0, 0));
        due("nothing costs nothing", 0, () -> x.cheapest(2, 0));
        x.cheapest(0, 3);
        due("nor with more", 0, () -> x.cheapest(2, 3));
        due("it has none", "", () -> found(x));
        x.price('i', 9);
        due("one", 9, () -> x.cheapest(0, 1));
        due("none of two is cheaper", 9, () -> x.cheapest(0, 2));
        due("three are", 3, () -> x.cheapest(0, 3));
        due("t d t", "40 34 40", () -> found(x));
        x.price('f', 9);
        x.price('b', 9);
        x.setWait(5);
        due("dear ones with a wait", 23, () -> x.cheapest(1, 2));
        due("none of 1", MISSING, () -> x.cheapest(1, 1));
        due("what was found stays", "46 45", () -> found(x));

        sentence("of like ones the shorter one, then the first one so.");
        Leastcode y = bench("i0", "z0", "f i0");
        for (int p = 0; p < 3; p++) {
            y.addGoal(p, 7);
        }
        y.price('i', 3);
        due("as dear as three", 3, () -> y.cheapest(0, 3));
        due("the shorter one", "32", () -> found(y));
        y.price('i', 4);
        due("dearer than three", 3, () -> y.cheapest(0, 3));
        due("the longer one", "40 34 40", () -> found(y));
        due("of one length", 1, () -> y.cheapest(1, 3));
        due("the first one", "20", () -> found(y));
        y.price('x', 2);
        due("as dear, but for that", 1, () -> y.cheapest(1, 3));
        due("the next one", "42", () -> found(y));
        due("either way round", 5, () -> y.cheapest(2, 2));
        due("the first way", "32 46", () -> found(y));
    }

    private static void found() {
        sentence("What was found last is kept, and can become a program.");
        Leastcode x = bench("", "f i0");
        x.addGoal(0, 7);
        x.addGoal(1, 7);
        due("nothing yet", MISSING, () -> x.foundSize());
        due("nothing yet to tell", MISSING, () -> x.foundAt(0));
        due("nothing yet to keep", MISSING, () -> x.keep());
        due("none", MISSING, () -> x.least(1, 0));
        due("still nothing", MISSING, () -> x.foundSize());
        x.least(0, 0);
        due("an empty one", 0, () -> x.foundSize());
        due("has none", MISSING, () -> x.foundAt(0));
        due("becomes a program", 2, () -> x.keep());
        due("is empty", 0, () -> x.size(2));
        x.cheapest(1, 3);
        due("the last of both", "32 46", () -> found(x));
        due("below its first", MISSING, () -> x.foundAt(-1));
        due("behind its last", MISSING, () -> x.foundAt(2));
        due("a search without an answer", MISSING, () -> x.least(1, 1));
        due("it stays", "32 46", () -> found(x));
        due("becomes one too", 3, () -> x.keep());
        due("as it was found", "32 46", () -> text(x, 3));
        due("as a program may be longer", 3, () -> x.add(3, 'f', 0, 0));
        due("what was found is not", 2, () -> x.foundSize());
        x.shrink(3, 3, 7);
        due("shrinking finds nothing", "32 46", () -> found(x));
        x.walk(0, 4, 1);
        due("a walk does, of four", 4, () -> x.foundSize());
        due("its last one", true, () -> x.foundAt(3) >= 0);
        due("behind that", MISSING, () -> x.foundAt(4));
        for (int number = 4; number < 8; number++) {
            int n = number;
            due("kept as " + n, n, () -> x.keep());
        }
        due("a ninth", FULL, () -> x.keep());
        due("the eighth", 4, () -> x.size(7));
    }

    private static void alike() {
        sentence("Two programs are the same by parts if from all states these become alike.");
        Leastcode x = bench("", "i0", "i1", "f", "z0 z1 i1 k01", "o01 z1 b1 o01 z1 k10",
                "n01 t0 f z1 b1 o01 z1 k10");
        due("empty and itself", true, () -> x.isSame(0, 0, 7));
        for (int parts = 0; parts < 8; parts++) {
            int p = parts;
            due("register 0 by " + p, p % 2 == 0, () -> x.isSame(0, 1, p));
            due("register 1 by " + p, p / 2 % 2 == 0, () -> x.isSame(2, 0, p));
            due("flag by " + p, p / 4 == 0, () -> x.isSame(0, 3, p));
        }
        due("parts -1", ARGUMENT, () -> x.isSame(0, 0, -1));
        due("parts 8", ARGUMENT, () -> x.isSame(0, 0, 8));
        due("unlike from 0 alone", false, () -> x.isSame(4, 5, 4));
        due("unlike from 127 alone", false, () -> x.isSame(6, 4, 4));
        due("alike from 1 on", true, () -> {
            boolean alike = x.run(5, 0) % 2 == 0 && x.run(6, 127) % 2 == 0;
            for (int state = 1; state < 127; state++) {
                alike &= x.run(5, state) % 2 == 1 && x.run(6, state) % 2 == 1;
            }
            return alike;
        });
        Leastcode full = bench(times("f", 8), times("t1", 8), "");
        due("full and empty", true, () -> full.isSame(0, 2, 7));
        due("full and full", true, () -> full.isSame(0, 1, 7));
    }

    private static void unlike() {
        sentence("Returns how many effects unlike each other programs up to a length have.");
        Leastcode x = new Leastcode();
        due("-1", ARGUMENT, () -> x.unlike(-1));
        due("3", ARGUMENT, () -> x.unlike(3));
        due("the empty one", 1, () -> x.unlike(0));
        due("of 1", 35, () -> x.unlike(1));
        due("of 2", 799, () -> x.unlike(2));
        Leastcode y = bench("i0");
        due("of 2 first", 799, () -> y.unlike(2));
        due("then the empty one", 1, () -> y.unlike(0));
        due("nothing is found by it", MISSING, () -> y.foundSize());
    }

    private static void ruleSides() {
        sentence("At most 8 rules have a left side and a right side, of programs as they are "
                + "then,");
        Leastcode x = bench("", "");
        due("none is used", BOUNDS, () -> x.used(0));
        for (int i = 0; i < 8; i++) {
            int number = i;
            due("left side of " + (i + 1), i + 1, () -> x.add(0, 'i', 0, 0));
            due("number " + i, number, () -> x.addRule(0, 1, 6));
            due("used " + i, 0, () -> x.used(number));
        }
        x.drop(0);
        x.add(0, 'd', 0, 0);
        due("the ninth", FULL, () -> x.addRule(0, 1, 6));
        due("no rule 8", BOUNDS, () -> x.used(8));
        due("no rule -1", BOUNDS, () -> x.used(-1));
        Leastcode y = bench("f f", "", "f f");
        y.addRule(0, 1, 7);
        y.drop(0);
        y.add(1, 'z', 0, 0);
        due("as they were", 1, () -> y.rewrite(2, 7));
        due("with nothing in its place", 0, () -> y.size(2));

        sentence("which are the same by the parts that the rule keeps;");
        for (int parts = 0; parts < 8; parts++) {
            int p = parts;
            due("register 0 by " + p, p % 2 == 0 ? (Object) 0 : UNSUPPORTED,
                    () -> bench("i0", "").addRule(0, 1, p));
            due("register 1 by " + p, p / 2 % 2 == 0 ? (Object) 0 : UNSUPPORTED,
                    () -> bench("i1", "").addRule(0, 1, p));
            due("flag by " + p, p / 4 == 0 ? (Object) 0 : UNSUPPORTED,
                    () -> bench("f", "").addRule(0, 1, p));
        }
        due("unlike from 0 alone", UNSUPPORTED,
                () -> bench("o01 z1 b1 o01 z1 k10", "z0 z1 i1 k01").addRule(0, 1, 4));
        due("parts -1", ARGUMENT, () -> bench("f f", "").addRule(0, 1, -1));
        due("parts 8", ARGUMENT, () -> bench("f f", "").addRule(0, 1, 8));

        sentence("the right one has fewer instructions.");
        due("none and none", UNSUPPORTED, () -> bench("", "").addRule(0, 1, 7));
        due("one and one", UNSUPPORTED, () -> bench("a00", "l0").addRule(0, 1, 7));
        due("none and one", UNSUPPORTED, () -> bench("", "m00").addRule(0, 1, 7));
        due("one and none", 0, () -> bench("m00", "").addRule(0, 1, 7));
        due("itself", UNSUPPORTED, () -> bench("m00").addRule(0, 0, 7));
        due("8 and 8", UNSUPPORTED, () -> bench(times("f", 8), times("t0", 8)).addRule(0, 1, 7));
        due("8 and 7", 0, () -> bench(times("f", 8), times("m00", 7)).addRule(0, 1, 7));
        due("7 and 8", UNSUPPORTED, () -> bench(times("m00", 7), times("f", 8)).addRule(0, 1, 7));
        due("8 and none", 0, () -> bench(times("f", 8), "").addRule(0, 1, 7));
    }

    private static void exchangedRules() {
        sentence("A rule holds with both registers exchanged, too, the parts as well.");
        // "m01 i0" is "m01" by all but the register 0, exchanged by all but the register 1.
        for (int parts = 0; parts < 8; parts++) {
            int p = parts;
            Leastcode x = bench("m01 i0", "m01", "m01 i0", "m10 i1");
            x.addRule(0, 1, 6);
            due("as told, " + p + " lives", 1 - p % 2, () -> x.rewrite(2, p));
            due("exchanged, " + p + " lives", 1 - p / 2 % 2, () -> x.rewrite(3, p));
            due("as told is left", p % 2 == 0 ? "1" : "1 32", () -> text(x, 2));
            due("exchanged is left", p / 2 % 2 == 0 ? "2" : "2 33", () -> text(x, 3));
            due("both are counted", 2 - p % 2 - p / 2 % 2, () -> x.used(0));
        }
        String all = "m01 m00 a10 a11 c01 b1 z0 f";
        Leastcode y = bench(all, "", "m10 m11 a01 a00 c10 b0 z1 f", "m10 m11 a01 a00 c10 b0 z1 f");
        y.addRule(0, 1, 0);
        due("each kind of them", 1, () -> y.rewrite(2, 0));
        due("all eight are gone", 0, () -> y.size(2));
        y.drop(3);
        y.add(3, 'f', 0, 0);
        y.drop(3);
        due("but seven do not stand for eight", 0, () -> y.rewrite(3, 0));

        // Left sides that are their own exchanged ones: the parts alone differ.
        Leastcode z = bench("f", "", "f", "f", "f");
        z.addRule(0, 1, 1);
        due("the flag, as told", 1, () -> z.rewrite(2, 1));
        due("the flag, exchanged", 1, () -> z.rewrite(3, 2));
        due("neither keeps both", 0, () -> z.rewrite(4, 3));
    }

    private static void rewriting() {
        sentence("To rewrite a program, the first place of it is taken at which the left side of a "
                + "rule stands,");
        Leastcode x = bench("f f", "", "", "f", "i0 f f", "f f i0", "f i0 f", "f f f");
        x.addRule(0, 1, 7);
        due("empty", 0, () -> x.rewrite(2, 7));
        due("shorter than the left side", 0, () -> x.rewrite(3, 7));
        due("at the last place", 1, () -> x.rewrite(4, 7));
        due("what is ahead is left", "32", () -> text(x, 4));
        due("at the first place", 1, () -> x.rewrite(5, 7));
        due("what is behind is left", "32", () -> text(x, 5));
        due("not one behind the other", 0, () -> x.rewrite(6, 7));
        due("of three", 1, () -> x.rewrite(7, 7));
        due("one is left", "46", () -> text(x, 7));
        due("the whole program", 1, () -> x.rewrite(0, 7));
        due("nothing is left", 0, () -> x.size(0));
        due("all counted", 4, () -> x.used(0));
        // The first place, of the higher rule, goes ahead of the second one, of the lower rule.
        Leastcode first = bench("m00 z0", "z0", "m11 m00", "m00", "m11 m00 z0");
        first.addRule(0, 1, 7);
        first.addRule(2, 3, 7);
        due("both are taken", 2, () -> first.rewrite(4, 7));
        Leastcode other = bench("z1 i0 z1", "i0 z1", "i0 z1 z1", "i0 z1", "z1 i0 z1 z1");
        other.addRule(2, 3, 7);
        other.addRule(0, 1, 7);
        due("the first place, then the next", 2, () -> other.rewrite(4, 7));

        sentence("of several rules the lowest, as told ahead of exchanged,");
        Leastcode y = bench("z0 z0", "z0", "z0 z0 z0", "", "z0 z0 z0");
        y.addRule(0, 1, 7);
        y.addRule(2, 0, 7);
        due("the lowest", 2, () -> y.rewrite(4, 7));
        due("rule 0", 2, () -> y.used(0));
        due("rule 1", 0, () -> y.used(1));
        Leastcode z = bench("x01 x10 x01 k01", "m00 m11", "x10 x01 x10 k10", "");
        z.addRule(0, 3, 0);
        z.addRule(2, 1, 0);
        due("the lowest, though exchanged", 1, () -> z.rewrite(2, 0));
        due("rule 0, exchanged", 1, () -> z.used(0));
        due("nothing in its place", 0, () -> z.size(2));
        Leastcode own = bench("f f", "m00", "f f");
        own.addRule(0, 1, 7);
        due("both ways round", 1, () -> own.rewrite(2, 7));
        due("as told, not m11", "0", () -> text(own, 2));

        sentence("if all parts that live behind it are kept by the rule:");
        for (int parts = 0; parts < 8; parts++) {
            int p = parts;
            Leastcode w = bench("a01", "", "a01");
            w.addRule(0, 1, 2);
            due("register 1 is kept, " + p + " live", p == 0 || p == 2 ? 1 : 0,
                    () -> w.rewrite(2, p));
        }
        Leastcode v = bench("i0", "", "i0 z0", "i0 m10", "z0 i0");
        v.addRule(0, 1, 6);
        due("written over behind it", 1, () -> v.rewrite(2, 7));
        due("read behind it", 0, () -> v.rewrite(3, 6));
        due("read by a dead one", 1, () -> v.rewrite(3, 4));
        due("at the end", 0, () -> v.rewrite(4, 1));

        sentence("the right side comes in its place; again and again, until there is none.");
        Leastcode u = bench("f", "", times("f", 8), "t0 t0", times("t0", 8), "z0 i0 d0", "z0",
                "z0 i0 i0 d0 d0");
        u.addRule(0, 1, 3);
        u.addRule(3, 1, 7);
        u.addRule(5, 6, 7);
        due("full, one by one", 8, () -> u.rewrite(2, 3));
        due("down to nothing", 0, () -> u.size(2));
        due("full, two by two", 4, () -> u.rewrite(4, 7));
        due("down to nothing too", 0, () -> u.size(4));
        due("none fits", 0, () -> u.rewrite(7, 7));
        due("it is as it was", "42 32 32 34 34", () -> text(u, 7));
        due("used", 8, () -> u.used(0));
        due("used of two", 4, () -> u.used(1));
    }

    private static void shrinking() {
        sentence("To shrink a program by a window, 1 to 3,");
        Leastcode x = bench("i0 i0 i0 f f f", "", "f f f", "f f f", "f f f");
        due("0", ARGUMENT, () -> x.shrink(0, 0, 7));
        due("4", ARGUMENT, () -> x.shrink(0, 4, 7));
        due("-1", ARGUMENT, () -> x.shrink(0, -1, 7));
        due("by 1", 3, () -> x.shrink(2, 1, 7));
        due("by 2", 1, () -> x.shrink(3, 2, 7));
        due("by 3", 1, () -> x.shrink(4, 3, 7));
        due("empty by 1", 0, () -> x.shrink(1, 1, 7));
        due("empty by 3", 0, () -> x.shrink(1, 3, 7));

        sentence("the first such window is taken, of so many instructions one behind the other,");
        Leastcode y = bench("f f", "f f", "i0 f f", "f f i0", "f i0 f", "m00", "i0 m00 i0 f i0 f");
        due("wider than the program", 2, () -> y.shrink(0, 3, 7));
        due("as wide as the program", 0, () -> y.shrink(1, 2, 7));
        due("at its end", 1, () -> y.shrink(2, 2, 7));
        due("at its beginning", 1, () -> y.shrink(3, 2, 7));
        due("wider than what could go", 3, () -> y.shrink(4, 2, 7));
        due("as wide as needed", 1, () -> y.shrink(4, 3, 7));
        due("of one", 0, () -> y.shrink(5, 1, 7));
        due("one alone", 5, () -> y.shrink(6, 1, 7));
        due("without that", "32 32 46 32 46", () -> text(y, 6));
        // With the last window first "m00" would be left alone, which is no window of two.
        Leastcode first = bench("m00 t1 t1", "k11 m11 t0");
        due("the first window first", 0, () -> first.shrink(0, 2, 7));
        due("and then the next one", 2, () -> first.shrink(1, 2, 7));
        due("k00 for k11", "24 40", () -> text(first, 1));

        sentence("for which a shorter program does the same with the parts that live behind it:");
        Leastcode z = bench("i0", "i0", "i0 z0", "i0 m10 z0", "a01 b0", "s00", times("i0", 8));
        due("nothing lives", 0, () -> z.shrink(0, 1, 0));
        due("it lives", 1, () -> z.shrink(1, 1, 7));
        due("written over", 1, () -> z.shrink(2, 1, 7));
        due("read behind it", 3, () -> z.shrink(3, 1, 7));
        due("read by a dead one", 1, () -> z.shrink(3, 1, 5));
        due("for a part alone", 2, () -> z.shrink(4, 2, 1));
        due("and for none of both", 0, () -> z.shrink(4, 2, 2));
        due("no shorter one", 1, () -> z.shrink(5, 1, 7));
        due("no shorter one of eight", 8, () -> z.shrink(6, 2, 7));
        due("three can be as long as three", 8, () -> z.shrink(6, 3, 7));

        sentence("the first so comes in its place; again and again, until there is none.");
        Leastcode w = bench("i0 z0", "l0 r0 l0 r0", times("t0", 8), times("f", 7), times("z0", 8));
        due("of like ones the first", 1, () -> w.shrink(0, 2, 7));
        due("x for z", "20", () -> text(w, 0));
        due("of two the first", 2, () -> w.shrink(1, 3, 7));
        due("a for l", "4 38", () -> text(w, 1));
        due("full, down to nothing", 0, () -> w.shrink(2, 2, 7));
        due("seven, down to one", 1, () -> w.shrink(3, 2, 7));
        due("the one", "46", () -> text(w, 3));
        due("full, down to one", 1, () -> w.shrink(4, 1, 7));
        due("which stays", "42", () -> text(w, 4));
    }

    private static void lots() {
        sentence("z, 1 at first, becomes z times 48271 modulo 2147483647 ahead of each lot.");
        due("1 at first", 1, () -> new Leastcode().seed(1));
        due("0", ARGUMENT, () -> new Leastcode().seed(0));
        due("2147483647", ARGUMENT, () -> new Leastcode().seed(2147483647));
        Leastcode x = bench("");
        x.addGoal(0, 0);
        x.walk(0, 1, 1);
        // Three lots: 48271, 182605794, 1291394886.
        due("from 1 on", 1291394886, () -> x.seed(2147483646));
        x.walk(0, 1, 1);
        // From the highest one on they are as far below the modulus.
        due("from the highest on", 2147483647 - 1291394886, () -> x.seed(1));
        x.seed(2147483646);
        due("the highest is kept", 2147483646, () -> x.seed(2147483646));
        x.walk(0, 1, 1);
        due("the first lot, which is beyond an int ahead of the modulus",
                (2147483647 - 48271) % 47, () -> x.foundAt(0));

        sentence("A walk for a goal has a length and steps: its instructions are lots, z modulo "
                + "47, in order;");
        for (int length = 1; length <= 4; length++) {
            Leastcode y = bench("");
            y.addGoal(0, 0);
            int n = length;
            due("nothing is wrong", 0, () -> y.walk(0, n, 1));
            due("how many", n, () -> y.foundSize());
            long z = 1;
            for (int i = 0; i < n; i++) {
                z = z * 48271 % 2147483647;
                int lot = (int) (z % 47);
                int index = i;
                due("lot " + i + " of " + n, lot, () -> y.foundAt(index));
            }
            due("none behind them", MISSING, () -> y.foundAt(n));
        }
        due("length 0", ARGUMENT, () -> x.walk(0, 0, 1));
        due("length 5", ARGUMENT, () -> x.walk(0, 5, 1));
        due("steps 0", ARGUMENT, () -> x.walk(0, 1, 0));
        due("steps 201", ARGUMENT, () -> x.walk(0, 1, 201));
        for (int steps : new int[] {1, 2, 199, 200}) {
            for (int length : new int[] {1, 4}) {
                Leastcode y = bench("");
                y.addGoal(0, 0);
                y.walk(0, length, steps);
                long z = 1;
                for (int i = 0; i < length + 2 * steps; i++) {
                    z = z * 48271 % 2147483647;
                }
                int last = (int) z;
                due(length + " by " + steps + " steps", last, () -> y.seed(1));
            }
        }
    }

    /** A walk for the goal to do nothing, by all parts. */
    private static void walks(int seed, int length, int steps, int bits, String code, int last) {
        Leastcode x = bench("");
        x.addGoal(0, 7);
        x.seed(seed);
        String what = "from " + seed + ", " + length + " by " + steps;
        due(what + ": wrong bits", bits, () -> x.walk(0, length, steps));
        due(what + ": found", code, () -> found(x));
        due(what + ": z", last, () -> x.seed(1));
    }

    private static void walking() {
        // Instructions below by their numbers, their wrong bits in brackets.
        sentence("in each step a lot modulo the length is a place, another lot modulo 47 an "
                + "instruction for it;");
        // At first 19 43 38 12, then at the place 0 comes 36.
        walks(33, 4, 1, 320, "36 43 38 12", 557835657);
        // At first 4 15 21 23, then at the place 3 comes 18.
        walks(2, 4, 1, 320, "4 15 21 18", 814711366);

        sentence("that is taken if wrong bits are not more by it,");
        // 38 (256); 5 (256) is taken, as it is not more; 43 (192) is taken without a further lot.
        walks(19, 1, 2, 192, "43", 840006133);

        sentence("or if a further lot modulo 100, taken just if they are more,");
        // 4 (256); 21 (192) and 15 (0) are taken without a further lot.
        walks(2, 1, 2, 0, "15", 2009854435);
        // 46 (128); 39 (256) by the lot 6 against 13; 10 (256); 3 (0).
        walks(164, 1, 3, 0, "3", 587069765);
        // 4 15 (256); at the place 1 23 (448) by the lot 35 against 10: not, so that 15 stays; at
        // the place 0 comes 0 (0).
        walks(2, 2, 2, 0, "0 15", 64320675);

        sentence("is less than 20 times the steps that are left behind this one, divided by all, "
                + "cut.");
        // 13 (96); 20 (192), the lot 13 against 13 and a third: not; 22 (192), 73 against 6: not;
        // 12 (0).
        walks(265, 1, 3, 0, "12", 1439101472);
        // 14 (96); 32 (224), the lot 19 against 13, of the two steps that are left: not; 20 (192),
        // 56 against 6: not; 16 (0).
        walks(148, 1, 3, 0, "16", 1954451682);
        // 44 (112); 42 (192), the lot 16 against 16 and two thirds: not; and so on.
        walks(163, 1, 6, 64, "27", 426879608);
        // 45 (112); 11 (256), the lot 12 against 13: taken, so that 20 (192) is not more; then 6.
        walks(328, 1, 3, 112, "45", 500841006);

        sentence("The first one with the fewest wrong bits is what was found.");
        // 12 (0), then 16 (0), which is taken, but not found.
        walks(6, 1, 1, 0, "12", 1305918375);
    }

    private static void sums() {
        sentence("Returns 7 at first, then for each program 31 times itself plus the number of "
                + "each instruction, one behind the other, then 31 times itself plus its cost; "
                + "then for each goal 31 times itself plus how many rows are open; then 31 times "
                + "itself plus z.");
        due("of nothing", 7L * 31 + 1, () -> new Leastcode().checksum());
        Leastcode x = bench("");
        due("of an empty program", 7L * 31 * 31 + 1, () -> x.checksum());
        x.addGoal(0, 7);
        due("of a goal with no open row", 7L * 31 * 31 * 31 + 1, () -> x.checksum());
        for (int state = 0; state < 128; state++) {
            x.openRow(0, state);
        }
        x.seed(2147483646);
        due("of one with open rows alone, and the highest z",
                (7L * 31 * 31 + 128) * 31 + 2147483646, () -> x.checksum());
        String full = times("f", 8);
        Leastcode y = bench(full, full, full, full, full, full, full, full);
        for (int i = 0; i < 6; i++) {
            y.addGoal(0, 7);
        }
        long sum = 7;
        for (int i = 0; i < 8; i++) {
            for (int k = 0; k < 8; k++) {
                sum = 31 * sum + 46;
            }
            sum = 31 * sum + 8;
        }
        for (int i = 0; i < 6; i++) {
            sum = 31 * sum;
        }
        long wrapped = 31 * sum + 1;
        due("of all that there can be, far beyond a long", wrapped, () -> y.checksum());

        sentence("Returns their number divided by 128, both converted to float.");
        Leastcode z = bench("");
        z.addGoal(0, 7);
        due("none is open", 0.0f, () -> z.openShare(0));
        z.openRow(0, 127);
        due("one is", 0.0078125f, () -> z.openShare(0));
        for (int state = 0; state < 127; state++) {
            z.openRow(0, state);
        }
        due("all are", 1.0f, () -> z.openShare(0));
        z.setRow(0, 0, 0);
        due("one is not", 0.9921875f, () -> z.openShare(0));

        sentence("Returns the sum divided by how many there are, both converted to double.");
        due("of none", ArithmeticException.class, () -> new Leastcode().meanSize());
        due("of an empty one", 0.0, () -> bench("").meanSize());
        due("of a full one", 8.0, () -> bench(full).meanSize());
        due("of all full ones", 8.0, () -> y.meanSize());
        due("of two", 0.5, () -> bench("", "f").meanSize());
        due("of three", 1.0 / 3.0, () -> bench("", "f", "").meanSize());

        sentence("Returns whether each rule, exchanged too, keeps its parts from all states; no "
                + "program has more than 8 instructions; and each program without those that are "
                + "dead for all parts is the same by all parts.");
        due("of nothing", true, () -> new Leastcode().isSound());
        due("of full ones", true, () -> y.isSound());
        Leastcode w = bench("k01 i0 k01 z0 f f z1 l0", "i0", "f", "m01 i0", "m01", "");
        w.addRule(1, 5, 6);
        w.addRule(2, 5, 3);
        w.addRule(3, 4, 6);
        due("of rules and dead ones", true, () -> w.isSound());
        due("the dead ones stay", 8, () -> w.size(0));
        Leastcode all = bench("", "");
        for (int i = 0; i < 8; i++) {
            all.add(0, 'i', 0, 0);
            all.addRule(0, 1, 6);
        }
        due("of all rules that there can be", true, () -> all.isSound());
        due("none of them was taken", 0, () -> all.used(7));
    }
}
