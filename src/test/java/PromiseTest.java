import java.util.NoSuchElementException;

/** Each promise of the document by hand: ordinary inputs, the edges it names, and wrong ones. */
public final class PromiseTest {
    private static final Class<? extends Exception> BOUNDS = IndexOutOfBoundsException.class;
    private static final Class<? extends Exception> ARGUMENT = IllegalArgumentException.class;
    private static final Class<? extends Exception> STATE = IllegalStateException.class;
    private static final Class<? extends Exception> MISSING = NoSuchElementException.class;
    private static final Class<? extends Exception> UNSUPPORTED =
            UnsupportedOperationException.class;
    private static final Class<? extends Exception> ARITHMETIC = ArithmeticException.class;

    private static int checks = 0;
    private static int wrong = 0;

    private interface Call {
        Object answer();
    }

    public static void main(String[] args) {
        newObject();
        addProgram();
        add();
        drop();
        sizeAndAt();
        runEveryKind();
        runWrongly();
        prices();
        waits();
        readsAndLives();
        isDead();
        sweep();
        isSame();
        addGoal();
        rows();
        killing();
        wrongBits();
        least();
        cheapest();
        walk();
        seed();
        found();
        unlike();
        addRule();
        rewrite();
        rewriteExchanged();
        shrink();
        checksum();
        shares();
        isSound();
        throwingChangesNothing();
        System.out.println(checks + " checks, " + wrong + " wrong");
        if (wrong != 0) {
            System.exit(1);
        }
    }

    private static void due(int promise, String what, Object want, Call call) {
        checks++;
        Object got;
        try {
            got = call.answer();
        } catch (RuntimeException e) {
            got = e.getClass();
        }
        if (!want.equals(got)) {
            wrong++;
            System.out.println("promise " + promise + ", " + what + ": " + got + ", due is " + want);
        }
    }

    /** Adds a program out of words such as "a01 r0 f". */
    private static int program(Leastcode x, String words) {
        int number = x.addProgram();
        for (String word : words.split(" ")) {
            if (!word.isEmpty()) {
                int first = word.length() > 1 ? word.charAt(1) - '0' : 0;
                int second = word.length() > 2 ? word.charAt(2) - '0' : 0;
                x.add(number, word.charAt(0), first, second);
            }
        }
        return number;
    }

    private static String text(Leastcode x, int program) {
        StringBuilder all = new StringBuilder();
        for (int i = 0; i < x.size(program); i++) {
            all.append(i == 0 ? "" : " ").append(x.at(program, i));
        }
        return all.toString();
    }

    private static int state(int zero, int one, int flag) {
        return 16 * zero + 2 * one + flag;
    }

    private static void newObject() {
        Leastcode x = new Leastcode();
        due(1, "no program", BOUNDS, () -> x.size(0));
        due(1, "no goal", BOUNDS, () -> x.openShare(0));
        due(1, "no rule", BOUNDS, () -> x.used(0));
        due(1, "nothing found", MISSING, () -> x.foundSize());
        due(1, "no killer", MISSING, () -> x.killer());
        due(1, "no mean", ARITHMETIC, () -> x.meanSize());
        due(1, "sound", true, () -> x.isSound());
        due(1, "checksum", 7L * 31 + 1, () -> x.checksum());
        Leastcode other = new Leastcode();
        other.addProgram();
        due(1, "objects are apart", BOUNDS, () -> x.size(0));
    }

    private static void addProgram() {
        Leastcode x = new Leastcode();
        for (int i = 0; i < 8; i++) {
            due(2, "number " + i, i, () -> x.addProgram());
        }
        due(2, "the ninth", STATE, () -> x.addProgram());
        due(2, "the last is empty", 0, () -> x.size(7));
        due(2, "no ninth", BOUNDS, () -> x.size(8));
    }

    private static void add() {
        Leastcode x = new Leastcode();
        due(3, "no program", BOUNDS, () -> x.add(0, 'm', 0, 0));
        x.addProgram();
        due(3, "first", 1, () -> x.add(0, 'm', 0, 1));
        due(3, "second", 2, () -> x.add(0, 'c', 1, 1));
        due(3, "negative program", BOUNDS, () -> x.add(-1, 'm', 0, 0));
        due(3, "program before kind", BOUNDS, () -> x.add(1, '?', 5, 5));
        due(3, "kind", ARGUMENT, () -> x.add(0, 'q', 0, 0));
        due(3, "great letter", ARGUMENT, () -> x.add(0, 'M', 0, 0));
        due(3, "kind 0", ARGUMENT, () -> x.add(0, (char) 0, 0, 0));
        due(3, "kind 65535", ARGUMENT, () -> x.add(0, (char) 65535, 0, 0));
        for (char kind : "masnoxkc".toCharArray()) {
            due(3, kind + " first 2", ARGUMENT, () -> x.add(0, kind, 2, 0));
            due(3, kind + " first -1", ARGUMENT, () -> x.add(0, kind, -1, 0));
            due(3, kind + " second 2", ARGUMENT, () -> x.add(0, kind, 0, 2));
            due(3, kind + " second -1", ARGUMENT, () -> x.add(0, kind, 1, -1));
        }
        for (char kind : "idlrtzb".toCharArray()) {
            due(3, kind + " first 2", ARGUMENT, () -> x.add(0, kind, 2, 0));
            due(3, kind + " first -1", ARGUMENT, () -> x.add(0, kind, -1, 1));
            int p = x.addProgram();
            due(3, kind + " any second", 1, () -> x.add(p, kind, 1, Integer.MIN_VALUE));
        }
        due(3, "f, any registers", 3, () -> x.add(0, 'f', -7, 99));
        for (int i = 4; i <= 8; i++) {
            int n = i;
            due(3, "to " + i, n, () -> x.add(0, 'z', 0, 0));
        }
        due(3, "full", STATE, () -> x.add(0, 'z', 0, 0));
        due(3, "register before full", ARGUMENT, () -> x.add(0, 'z', 2, 0));
        due(3, "kind before full", ARGUMENT, () -> x.add(0, 'Z', 0, 0));
    }

    private static void drop() {
        Leastcode x = new Leastcode();
        due(4, "no program", BOUNDS, () -> x.drop(0));
        program(x, "i0 d1");
        due(4, "of two", 1, () -> x.drop(0));
        due(4, "the first stays", 32, () -> x.at(0, 0));
        due(4, "of one", 0, () -> x.drop(0));
        due(4, "of none", MISSING, () -> x.drop(0));
        due(4, "negative", BOUNDS, () -> x.drop(-1));
    }

    private static void sizeAndAt() {
        Leastcode x = new Leastcode();
        int number = 0;
        for (char kind : "masnoxkc".toCharArray()) {
            int p = x.addProgram();
            for (int i = 0; i < 4; i++) {
                x.add(p, kind, i / 2, i % 2);
                int n = i;
                int due = number;
                due(6, kind + " " + i, due, () -> x.at(p, n));
                number++;
            }
            due(5, "four", 4, () -> x.size(p));
        }
        Leastcode y = new Leastcode();
        for (char kind : "idlrtzb".toCharArray()) {
            int p = y.addProgram();
            for (int i = 0; i < 2; i++) {
                y.add(p, kind, i, 0);
                int n = i;
                int due = number;
                due(6, kind + " " + i, due, () -> y.at(p, n));
                number++;
            }
        }
        y.add(0, 'f', 0, 0);
        due(6, "f", 46, () -> y.at(0, 2));
        due(5, "three", 3, () -> y.size(0));
        due(6, "index -1", MISSING, () -> y.at(0, -1));
        due(6, "index 3", MISSING, () -> y.at(0, 3));
        due(6, "no program", BOUNDS, () -> y.at(7, 9));
        due(5, "no program", BOUNDS, () -> y.size(7));
        due(5, "negative", BOUNDS, () -> y.size(Integer.MIN_VALUE));
    }

    private static void one(String word, int zero, int one, int flag, int want) {
        Leastcode x = new Leastcode();
        program(x, word);
        due(7, word + " from " + zero + " " + one + " " + flag, want,
                () -> x.run(0, state(zero, one, flag)));
    }

    private static void runEveryKind() {
        one("", 5, 6, 1, state(5, 6, 1));
        one("m01", 5, 6, 1, state(6, 6, 1));
        one("m10", 5, 6, 0, state(5, 5, 0));
        one("a01", 5, 6, 0, state(3, 6, 1));
        one("a10", 5, 2, 1, state(5, 7, 0));
        one("a00", 4, 2, 0, state(0, 2, 1));
        one("s01", 5, 6, 0, state(7, 6, 1));
        one("s10", 5, 6, 1, state(5, 1, 0));
        one("s11", 5, 6, 1, state(5, 0, 0));
        one("n01", 5, 6, 1, state(4, 6, 1));
        one("o10", 5, 2, 0, state(5, 7, 0));
        one("x01", 5, 6, 1, state(3, 6, 1));
        one("x00", 5, 6, 1, state(0, 6, 1));
        one("k01", 5, 6, 0, state(5, 6, 1));
        one("k10", 5, 6, 1, state(5, 6, 0));
        one("k00", 5, 6, 1, state(5, 6, 0));
        one("c01", 5, 6, 1, state(6, 6, 1));
        one("c01", 5, 6, 0, state(5, 6, 0));
        one("i0", 7, 6, 0, state(0, 6, 0));
        one("i1", 5, 6, 1, state(5, 7, 1));
        one("d0", 0, 6, 0, state(7, 6, 0));
        one("d1", 0, 6, 1, state(0, 5, 1));
        one("l0", 3, 6, 1, state(6, 6, 0));
        one("l1", 3, 6, 0, state(3, 4, 1));
        one("r0", 3, 6, 0, state(1, 6, 1));
        one("r1", 3, 6, 1, state(3, 3, 0));
        one("t0", 3, 6, 1, state(4, 6, 1));
        one("t1", 3, 7, 0, state(3, 0, 0));
        one("z0", 3, 6, 1, state(0, 6, 1));
        one("z1", 3, 6, 0, state(3, 0, 0));
        one("b0", 7, 6, 1, state(0, 6, 1));
        one("b1", 3, 6, 0, state(3, 6, 0));
        one("f", 3, 6, 0, state(3, 6, 1));
        one("f", 3, 6, 1, state(3, 6, 0));
        one("a01 b1 f", 7, 1, 0, state(0, 2, 0));
    }

    private static void runWrongly() {
        Leastcode x = new Leastcode();
        due(7, "no program, no state", BOUNDS, () -> x.run(0, 128));
        program(x, "");
        due(7, "128", ARGUMENT, () -> x.run(0, 128));
        due(7, "-1", ARGUMENT, () -> x.run(0, -1));
        due(7, "0", 0, () -> x.run(0, 0));
        due(7, "127", 127, () -> x.run(0, 127));
    }

    private static void prices() {
        Leastcode x = new Leastcode();
        program(x, "a01 z0 a10 f");
        due(10, "ones", 4, () -> x.cost(0));
        due(8, "a", 1, () -> x.price('a', 9));
        due(8, "a again", 9, () -> x.price('a', 3));
        due(8, "f", 1, () -> x.price('f', 2));
        due(8, "m", 1, () -> x.price('m', 9));
        due(10, "by kinds", 9, () -> x.cost(0));
        due(8, "cost 0", ARGUMENT, () -> x.price('a', 0));
        due(8, "cost 10", ARGUMENT, () -> x.price('a', 10));
        due(8, "no kind", ARGUMENT, () -> x.price('e', 1));
        due(8, "a is left", 3, () -> x.price('a', 3));
        due(10, "no program", BOUNDS, () -> x.cost(1));
        due(10, "negative", BOUNDS, () -> x.cost(-1));
    }

    private static void waits() {
        Leastcode x = new Leastcode();
        due(9, "first", 0, () -> x.setWait(5));
        due(9, "6", ARGUMENT, () -> x.setWait(6));
        due(9, "-1", ARGUMENT, () -> x.setWait(-1));
        due(9, "then", 5, () -> x.setWait(4));
        String[] waiting = {"i0 i0", "i0 m10", "a01 b1", "k01 c01", "f f", "l1 r1", "a01 c11"};
        for (String words : waiting) {
            Leastcode y = new Leastcode();
            y.setWait(5);
            program(y, words);
            due(10, words, 7, () -> y.cost(0));
        }
        String[] free = {"i0 i1", "i0 z0", "m01 m01", "k01 i0", "m10 b0", "a01 r1", "f m01"};
        for (String words : free) {
            Leastcode y = new Leastcode();
            y.setWait(5);
            program(y, words);
            due(10, words, 2, () -> y.cost(0));
        }
        program(x, "i0 i1 i0");
        due(10, "just the one ahead", 3, () -> x.cost(0));
        int p = program(x, "i0 a00 a01");
        due(10, "one wait each", 3 + 2 * 4, () -> x.cost(p));
        int q = program(x, "");
        due(10, "none", 0, () -> x.cost(q));
    }

    private static void readsOf(String words, int want) {
        Leastcode x = new Leastcode();
        program(x, words);
        due(11, words, want, () -> x.reads(0));
    }

    private static void readsAndLives() {
        readsOf("", 7);
        readsOf("z0", 6);
        readsOf("z0 z1", 4);
        readsOf("z0 z1 k01", 0);
        readsOf("m01", 6);
        readsOf("m10", 5);
        readsOf("a01", 3);
        readsOf("l0", 3);
        readsOf("r1", 3);
        readsOf("k01", 3);
        readsOf("x00", 7);
        readsOf("c01 z0 z1", 4);
        readsOf("c00", 7);
        readsOf("z0 b0", 6);
        readsOf("k11 z0 z1", 2);
        readsOf("s11", 3);
        Leastcode x = new Leastcode();
        due(11, "no program", BOUNDS, () -> x.reads(0));
        program(x, "m01 m10 i0 k01 c01");
        due(12, "behind the last", 2, () -> x.lives(0, 4, 2));
        due(12, "ahead of a dead one", 2, () -> x.lives(0, 3, 2));
        due(12, "c reads both and the flag", 7, () -> x.lives(0, 3, 1));
        due(12, "k reads both", 3, () -> x.lives(0, 2, 1));
        due(12, "ahead of i", 3, () -> x.lives(0, 1, 1));
        due(12, "ahead of m10", 1, () -> x.lives(0, 0, 1));
        due(12, "nothing lives", 0, () -> x.lives(0, 0, 0));
        due(12, "no program", BOUNDS, () -> x.lives(1, 0, 8));
        due(12, "parts 8 and no index", ARGUMENT, () -> x.lives(0, 5, 8));
        due(12, "parts -1", ARGUMENT, () -> x.lives(0, 0, -1));
        due(12, "index 5", MISSING, () -> x.lives(0, 5, 7));
        due(12, "index -1", MISSING, () -> x.lives(0, -1, 7));
    }

    private static void isDead() {
        Leastcode x = new Leastcode();
        program(x, "a01 z0 f");
        due(13, "a, no flag", true, () -> x.isDead(0, 0, 1));
        due(13, "a, for its flag", false, () -> x.isDead(0, 0, 4));
        due(13, "z", false, () -> x.isDead(0, 1, 1));
        due(13, "z for another", true, () -> x.isDead(0, 1, 6));
        due(13, "f", false, () -> x.isDead(0, 2, 4));
        due(13, "f for none", true, () -> x.isDead(0, 2, 3));
        due(13, "no program", BOUNDS, () -> x.isDead(-1, 0, 8));
        due(13, "parts", ARGUMENT, () -> x.isDead(0, 9, 8));
        due(13, "parts -1", ARGUMENT, () -> x.isDead(0, 0, -1));
        due(13, "index", MISSING, () -> x.isDead(0, 3, 7));
        due(13, "index -1", MISSING, () -> x.isDead(0, -1, 7));
    }

    private static void sweep() {
        Leastcode x = new Leastcode();
        due(14, "no program", BOUNDS, () -> x.sweep(0, 9));
        program(x, "i0 m10 z1 f");
        due(14, "parts", ARGUMENT, () -> x.sweep(0, 8));
        due(14, "parts -1", ARGUMENT, () -> x.sweep(0, -1));
        due(14, "chain", 1, () -> x.sweep(0, 2));
        due(14, "z1 is left", "42", () -> String.valueOf(x.at(0, 0) - 1));
        int p = program(x, "i0 d0");
        due(14, "none dead", 2, () -> x.sweep(p, 7));
        due(14, "all dead", 0, () -> x.sweep(p, 6));
        due(14, "empty", 0, () -> x.sweep(p, 7));
        int q = program(x, "k01 i0 k01 i1 f");
        due(14, "the earlier k", 4, () -> x.sweep(q, 7));
        due(14, "which", "32 25 33 46", () -> text(x, q));
    }

    private static void isSame() {
        Leastcode x = new Leastcode();
        program(x, "a00");
        program(x, "l0");
        program(x, "z0");
        program(x, "x00");
        program(x, "s00");
        due(15, "a and l", true, () -> x.isSame(0, 1, 7));
        due(15, "itself", true, () -> x.isSame(2, 2, 7));
        due(15, "z and x", true, () -> x.isSame(2, 3, 7));
        due(15, "z and s by registers", true, () -> x.isSame(2, 4, 3));
        due(15, "z and s by the flag", false, () -> x.isSame(2, 4, 4));
        due(15, "by nothing", true, () -> x.isSame(0, 4, 0));
        due(15, "by the register 1", true, () -> x.isSame(0, 4, 2));
        due(15, "by the register 0", false, () -> x.isSame(0, 2, 1));
        // The flag is 0 from just one state: the first one, or the last one.
        Leastcode y = new Leastcode();
        program(y, "z0 z1 i1 k01");
        program(y, "o01 z1 b1 o01 z1 k10");
        program(y, "n01 t0 f z1 b1 o01 z1 k10");
        due(15, "just from 0", 0, () -> y.run(1, 0) % 2);
        due(15, "apart from 0 alone", false, () -> y.isSame(0, 1, 4));
        due(15, "just from 127", 0, () -> y.run(2, 127) % 2);
        due(15, "apart from 127 alone", false, () -> y.isSame(2, 0, 4));
        due(15, "first", BOUNDS, () -> x.isSame(5, 0, 8));
        due(15, "second", BOUNDS, () -> x.isSame(0, -1, 8));
        due(15, "parts", ARGUMENT, () -> x.isSame(0, 1, 8));
        due(15, "parts -1", ARGUMENT, () -> x.isSame(0, 1, -1));
    }

    private static void addGoal() {
        Leastcode x = new Leastcode();
        due(16, "no program", BOUNDS, () -> x.addGoal(0, 8));
        program(x, "i0");
        due(16, "parts", ARGUMENT, () -> x.addGoal(0, 8));
        due(16, "parts -1", ARGUMENT, () -> x.addGoal(0, -1));
        for (int i = 0; i < 6; i++) {
            due(16, "number " + i, i, () -> x.addGoal(0, 7));
        }
        due(16, "the seventh", STATE, () -> x.addGoal(0, 7));
        due(16, "parts before full", ARGUMENT, () -> x.addGoal(0, 8));
        x.add(0, 'i', 0, 0);
        due(16, "the program as it was", false, () -> x.meets(0, 0));
        x.drop(0);
        due(16, "the program as it was again", true, () -> x.meets(0, 0));
    }

    private static void rows() {
        Leastcode x = new Leastcode();
        due(17, "no goal", BOUNDS, () -> x.setRow(0, 128, 128));
        due(18, "no goal", BOUNDS, () -> x.openRow(0, 128));
        program(x, "i0");
        x.addGoal(0, 1);
        due(17, "all parts are told", state(1, 3, 1), () -> x.setRow(0, state(0, 3, 1), 9));
        due(17, "then the new one", 9, () -> x.setRow(0, state(0, 3, 1), 127));
        due(18, "not open", false, () -> x.openRow(0, 7));
        due(18, "open", true, () -> x.openRow(0, 7));
        due(17, "was open", -1, () -> x.setRow(0, 7, 0));
        due(17, "is not open then", 0, () -> x.setRow(0, 7, 0));
        due(18, "not open either", false, () -> x.openRow(0, 7));
        due(17, "state 128", ARGUMENT, () -> x.setRow(0, 128, 0));
        due(17, "state -1", ARGUMENT, () -> x.setRow(0, -1, 0));
        due(17, "wanted 128", ARGUMENT, () -> x.setRow(0, 0, 128));
        due(17, "wanted -1", ARGUMENT, () -> x.setRow(0, 0, -1));
        due(18, "state 128", ARGUMENT, () -> x.openRow(0, 128));
        due(18, "state -1", ARGUMENT, () -> x.openRow(0, -1));
        due(17, "row 0 as it was", 16, () -> x.setRow(0, 0, 16));
    }

    private static void killing() {
        Leastcode x = new Leastcode();
        due(19, "no goal", BOUNDS, () -> x.meets(0, 0));
        due(20, "no goal", BOUNDS, () -> x.counter(0, 0));
        program(x, "");
        program(x, "i0");
        program(x, "c01");
        x.addGoal(0, 7);
        x.addGoal(0, 2);
        due(19, "no program", BOUNDS, () -> x.meets(0, 3));
        due(20, "no program", BOUNDS, () -> x.counter(0, -1));
        due(23, "none yet", MISSING, () -> x.killer());
        due(19, "meets", true, () -> x.meets(0, 0));
        due(20, "none", MISSING, () -> x.counter(0, 0));
        due(23, "meeting kills not", MISSING, () -> x.killer());
        due(19, "by the parts that live", true, () -> x.meets(1, 1));
        due(20, "the lowest", 0, () -> x.counter(0, 1));
        due(20, "of c", 3, () -> x.counter(0, 2));
        due(22, "once", 1, () -> x.kills(3));
        due(23, "of like ones the lowest", 0, () -> x.killer());
        due(19, "not", false, () -> x.meets(0, 2));
        due(22, "twice", 2, () -> x.kills(3));
        due(23, "most often", 3, () -> x.killer());
        x.wrong(0, 1);
        x.wrong(0, 1);
        x.least(0, 3);
        x.cheapest(0, 1);
        x.walk(0, 1, 5);
        due(22, "by nothing else", 1, () -> x.kills(0));
        x.openRow(0, 0);
        x.openRow(0, 1);
        due(20, "open rows do", 2, () -> x.counter(0, 1));
        for (int s = 0; s < 128; s++) {
            x.openRow(0, s);
        }
        due(19, "all open", true, () -> x.meets(0, 1));
        x.setRow(0, 127, 0);
        due(20, "just the last", 127, () -> x.counter(0, 0));
        due(22, "the last", 1, () -> x.kills(127));
        due(22, "128", ARGUMENT, () -> x.kills(128));
        due(22, "-1", ARGUMENT, () -> x.kills(-1));
    }

    private static void wrongBits() {
        Leastcode x = new Leastcode();
        due(21, "no goal", BOUNDS, () -> x.wrong(0, 0));
        program(x, "");
        program(x, "f");
        program(x, "t0");
        program(x, "t0 t1 f");
        x.addGoal(0, 7);
        x.addGoal(0, 2);
        due(21, "no program", BOUNDS, () -> x.wrong(0, 4));
        due(21, "none", 0, () -> x.wrong(0, 0));
        due(21, "a flag each", 128, () -> x.wrong(0, 1));
        due(21, "three each", 384, () -> x.wrong(0, 2));
        due(21, "all", 896, () -> x.wrong(0, 3));
        due(21, "the register 1", 384, () -> x.wrong(1, 3));
        due(21, "not the register 0", 0, () -> x.wrong(1, 2));
        x.openRow(0, 77);
        due(21, "without the open one", 889, () -> x.wrong(0, 3));
    }

    private static void least() {
        Leastcode x = new Leastcode();
        due(24, "no goal", BOUNDS, () -> x.least(0, 4));
        program(x, "");
        program(x, "i0 i0 i0 i0");
        program(x, "m01 i0 f");
        program(x, "i0 i0 i0 i1");
        for (int p = 0; p < 4; p++) {
            x.addGoal(p, 7);
        }
        due(24, "4", ARGUMENT, () -> x.least(0, 4));
        due(24, "-1", ARGUMENT, () -> x.least(0, -1));
        due(24, "none to find", MISSING, () -> x.least(3, 3));
        due(28, "still nothing found", MISSING, () -> x.foundSize());
        due(24, "empty", 0, () -> x.least(0, 0));
        due(28, "empty found", 0, () -> x.foundSize());
        due(29, "has none", MISSING, () -> x.foundAt(0));
        due(24, "three", 3, () -> x.least(2, 3));
        due(29, "0", 1, () -> x.foundAt(0));
        due(29, "1", 32, () -> x.foundAt(1));
        due(29, "2", 46, () -> x.foundAt(2));
        due(24, "too few", MISSING, () -> x.least(2, 2));
        due(28, "what was found stays", 3, () -> x.foundSize());
        due(24, "none of four", MISSING, () -> x.least(1, 3));
        x.addGoal(1, 0);
        due(24, "nothing lives", 0, () -> x.least(4, 3));
        for (int s = 0; s < 128; s++) {
            x.openRow(3, s);
        }
        due(24, "all open", 0, () -> x.least(3, 3));
        x.setRow(3, 127, state(1, 7, 1));
        due(24, "one row", 2, () -> x.least(3, 3));
    }

    private static void cheapest() {
        Leastcode x = new Leastcode();
        due(25, "no goal", BOUNDS, () -> x.cheapest(0, 4));
        program(x, "i0");
        x.addGoal(0, 7);
        due(25, "4", ARGUMENT, () -> x.cheapest(0, 4));
        due(25, "-1", ARGUMENT, () -> x.cheapest(0, -1));
        due(25, "too few", MISSING, () -> x.cheapest(0, 0));
        due(28, "still nothing found", MISSING, () -> x.foundSize());
        due(25, "one", 1, () -> x.cheapest(0, 3));
        x.price('i', 9);
        due(25, "two are none", 9, () -> x.cheapest(0, 2));
        due(29, "i0", 32, () -> x.foundAt(0));
        // 7 less (7 less it, 1 less) is 1 more.
        due(25, "three are cheaper", 3, () -> x.cheapest(0, 3));
        due(29, "t0", 40, () -> x.foundAt(0));
        due(29, "d0", 34, () -> x.foundAt(1));
        due(29, "t0 again", 40, () -> x.foundAt(2));
        x.setWait(2);
        due(25, "with waits", 7, () -> x.cheapest(0, 3));
        due(28, "three", 3, () -> x.foundSize());
        due(25, "none to find", MISSING, () -> x.cheapest(0, 0));
        due(28, "what was found stays", 3, () -> x.foundSize());
        x.setWait(3);
        due(25, "of like ones the shorter", 9, () -> x.cheapest(0, 3));
        due(28, "one", 1, () -> x.foundSize());
        Leastcode y = new Leastcode();
        program(y, "z0");
        y.addGoal(0, 7);
        due(25, "of like ones the first", 1, () -> y.cheapest(0, 3));
        due(29, "x00", 20, () -> y.foundAt(0));
        y.price('x', 2);
        due(25, "the other one", 1, () -> y.cheapest(0, 3));
        due(29, "z0", 42, () -> y.foundAt(0));
        program(x, "");
        x.addGoal(1, 7);
        due(25, "nothing costs nothing", 0, () -> x.cheapest(1, 3));
        due(28, "none", 0, () -> x.foundSize());
    }

    private static void walk() {
        Leastcode x = new Leastcode();
        due(26, "no goal", BOUNDS, () -> x.walk(0, 0, 0));
        program(x, "");
        x.addGoal(0, 0);
        x.addGoal(0, 7);
        due(26, "length 0", ARGUMENT, () -> x.walk(0, 0, 1));
        due(26, "length 5", ARGUMENT, () -> x.walk(0, 5, 1));
        due(26, "steps 0", ARGUMENT, () -> x.walk(0, 1, 0));
        due(26, "steps 201", ARGUMENT, () -> x.walk(0, 1, 201));
        due(27, "no lots were drawn", 1, () -> x.seed(1));
        due(28, "nothing found", MISSING, () -> x.foundSize());
        // The lots from 1 on: 48271, 182605794, 1291394886, 1914720637, 2078669041.
        due(26, "nothing lives", 0, () -> x.walk(0, 2, 1));
        due(28, "two", 2, () -> x.foundSize());
        due(29, "the first lot", 48271 % 47, () -> x.foundAt(0));
        due(29, "the second lot", 182605794 % 47, () -> x.foundAt(1));
        due(27, "two lots, and two of a step", 1914720637, () -> x.seed(1));
        // From 1 on: m10 with 192 wrong bits, a place, b0 with 112, which is taken.
        due(26, "not more", 112, () -> x.walk(1, 1, 1));
        due(29, "b0", 44, () -> x.foundAt(0));
        due(27, "three lots", 1291394886, () -> x.seed(8));
        // From 8 on: o00 with none, a place, l1 with more, a lot 67 against 20 times 0.
        due(26, "more, and no step is left", 0, () -> x.walk(1, 1, 1));
        due(29, "o00", 16, () -> x.foundAt(0));
        due(27, "four lots", 285379567, () -> x.seed(13050));
        // n11 with none; t1 with more, a lot 5 against 10, so taken; d1 with fewer than t1.
        due(26, "more is taken", 0, () -> x.walk(1, 1, 2));
        due(29, "n11, the first with the fewest", 15, () -> x.foundAt(0));
        due(27, "six lots", 969636825, () -> x.seed(129256));
        // o11 with none; t1 with more, a lot 10 against 10, so not; b1 with more, a lot.
        due(26, "more is not taken", 0, () -> x.walk(1, 1, 2));
        due(27, "seven lots", 1535726955, () -> x.seed(1));
        due(26, "told as it is kept", true, () -> x.walk(1, 4, 200) == x.wrong(1, x.keep()));
    }

    private static void seed() {
        Leastcode x = new Leastcode();
        due(27, "1 at first", 1, () -> x.seed(2147483646));
        due(27, "the greatest", 2147483646, () -> x.seed(1));
        due(27, "0", ARGUMENT, () -> x.seed(0));
        due(27, "-1", ARGUMENT, () -> x.seed(-1));
        due(27, "2147483647", ARGUMENT, () -> x.seed(2147483647));
        due(27, "1 is left", 1, () -> x.seed(7));
    }

    private static void found() {
        Leastcode x = new Leastcode();
        due(28, "nothing", MISSING, () -> x.foundSize());
        due(29, "nothing", MISSING, () -> x.foundAt(0));
        due(30, "nothing", MISSING, () -> x.keep());
        program(x, "t1 f");
        x.addGoal(0, 7);
        x.least(0, 2);
        due(29, "0", 41, () -> x.foundAt(0));
        due(29, "1", 46, () -> x.foundAt(1));
        due(29, "2", MISSING, () -> x.foundAt(2));
        due(29, "-1", MISSING, () -> x.foundAt(-1));
        due(30, "kept", 1, () -> x.keep());
        due(30, "kept again", 2, () -> x.keep());
        due(30, "as found", "41 46", () -> text(x, 1));
        x.drop(1);
        due(30, "apart from what was found", 2, () -> x.foundSize());
        due(30, "apart from each other", 2, () -> x.size(2));
        for (int i = 3; i < 8; i++) {
            x.keep();
        }
        due(30, "full", STATE, () -> x.keep());
        due(30, "as many", BOUNDS, () -> x.size(8));
        Leastcode y = new Leastcode();
        for (int i = 0; i < 8; i++) {
            y.addProgram();
        }
        due(30, "nothing before full", MISSING, () -> y.keep());
        y.addGoal(0, 7);
        y.least(0, 0);
        Leastcode z = new Leastcode();
        z.addProgram();
        z.addGoal(0, 7);
        z.least(0, 0);
        due(30, "an empty one", 1, () -> z.keep());
        due(30, "is empty", 0, () -> z.size(1));
    }

    private static void unlike() {
        Leastcode x = new Leastcode();
        due(31, "2", 799, () -> x.unlike(2));
        due(31, "1", 35, () -> x.unlike(1));
        due(31, "0", 1, () -> x.unlike(0));
        due(31, "2 again", 799, () -> x.unlike(2));
        due(31, "3", ARGUMENT, () -> x.unlike(3));
        due(31, "-1", ARGUMENT, () -> x.unlike(-1));
    }

    private static void addRule() {
        Leastcode x = new Leastcode();
        program(x, "i0 d0");
        program(x, "");
        program(x, "a00");
        program(x, "l0");
        program(x, "i1 d1");
        program(x, "z0 f");
        due(32, "left", BOUNDS, () -> x.addRule(6, 0, 8));
        due(32, "right", BOUNDS, () -> x.addRule(0, -1, 8));
        due(32, "parts", ARGUMENT, () -> x.addRule(0, 0, 8));
        due(32, "parts -1", ARGUMENT, () -> x.addRule(0, 0, -1));
        due(32, "as many", UNSUPPORTED, () -> x.addRule(2, 3, 7));
        due(32, "more", UNSUPPORTED, () -> x.addRule(1, 0, 7));
        due(32, "not the same", UNSUPPORTED, () -> x.addRule(5, 1, 7));
        due(32, "the first", 0, () -> x.addRule(0, 1, 7));
        due(32, "the left side is told", UNSUPPORTED, () -> x.addRule(0, 1, 3));
        due(32, "exchanged it is another", 1, () -> x.addRule(4, 1, 7));
        due(32, "the same by parts", 2, () -> x.addRule(5, 1, 2));
        x.drop(0);
        due(34, "the sides are as they were", 0, () -> x.used(0));
        x.add(0, 'd', 0, 0);
        due(32, "still told", UNSUPPORTED, () -> x.addRule(0, 1, 7));
        String kinds = "mcozx";
        for (int i = 0; i < kinds.length(); i++) {
            x.drop(0);
            x.drop(0);
            x.add(0, kinds.charAt(i), 0, 0);
            x.add(0, 'm', 0, 0);
            int n = i + 3;
            due(32, "number " + n, n, () -> x.addRule(0, 1, 6));
        }
        due(32, "told before full", UNSUPPORTED, () -> x.addRule(0, 1, 6));
        x.add(0, 'm', 0, 0);
        due(32, "full", STATE, () -> x.addRule(0, 1, 6));
        due(34, "no ninth", BOUNDS, () -> x.used(8));
    }

    private static void rewrite() {
        Leastcode x = new Leastcode();
        due(33, "no program", BOUNDS, () -> x.rewrite(0, 8));
        program(x, "i0 d0");
        program(x, "");
        program(x, "a01");
        program(x, "i0 i0 d0 d0 a01");
        x.addRule(0, 1, 7);
        x.addRule(2, 1, 2);
        due(33, "parts", ARGUMENT, () -> x.rewrite(3, 8));
        due(33, "parts -1", ARGUMENT, () -> x.rewrite(3, -1));
        due(33, "inner, then outer", 2, () -> x.rewrite(3, 7));
        due(33, "is left", "5", () -> text(x, 3));
        due(34, "twice", 2, () -> x.used(0));
        due(33, "the flag is not kept", 0, () -> x.rewrite(3, 6));
        due(33, "just what is kept lives", 1, () -> x.rewrite(3, 2));
        due(33, "gone", 0, () -> x.size(3));
        due(33, "of none", 0, () -> x.rewrite(3, 0));
        due(34, "once", 1, () -> x.used(1));
        due(34, "-1", BOUNDS, () -> x.used(-1));
        due(34, "2", BOUNDS, () -> x.used(2));

        // Of several rules at one place the lowest is taken, though another's left side is longer.
        Leastcode y = new Leastcode();
        program(y, "z0 z0");
        program(y, "z0");
        program(y, "z0 z0 z0");
        y.addRule(0, 1, 7);
        y.addRule(2, 1, 7);
        due(33, "lowest", 2, () -> y.rewrite(2, 7));
        due(34, "rule 0", 2, () -> y.used(0));
        due(34, "rule 1", 0, () -> y.used(1));
        due(33, "one is left", "42", () -> text(y, 2));

        // The first place goes before the lowest rule.
        Leastcode z = new Leastcode();
        program(z, "f f");
        program(z, "");
        program(z, "t0 t0");
        program(z, "t0 t0 f f");
        z.addRule(0, 1, 7);
        z.addRule(2, 1, 7);
        due(33, "both", 2, () -> z.rewrite(3, 7));
        due(34, "f f", 1, () -> z.used(0));
        due(34, "t t", 1, () -> z.used(1));
        // What a rule puts in may make the left side of another one.
        program(z, "f t0 t0 f");
        due(33, "closing up", 2, () -> z.rewrite(4, 7));
        due(33, "all gone", 0, () -> z.size(4));
    }

    private static void rewriteExchanged() {
        Leastcode x = new Leastcode();
        program(x, "m01 i0");
        program(x, "m01");
        x.addRule(0, 1, 6);
        program(x, "m10 i1");
        due(33, "its parts are exchanged too", 0, () -> x.rewrite(2, 2));
        due(33, "kept", 1, () -> x.rewrite(2, 5));
        due(33, "the right side exchanged", "2", () -> text(x, 2));
        due(34, "exchanged counts", 1, () -> x.used(0));
        program(x, "m01 i0");
        due(33, "as told", 0, () -> x.rewrite(3, 5));
        due(33, "as told, kept", 1, () -> x.rewrite(3, 6));
        due(33, "the right side", "1", () -> text(x, 3));
        due(34, "both count", 2, () -> x.used(0));

        // As told goes ahead of exchanged; a lower rule exchanged ahead of a higher one as told.
        Leastcode y = new Leastcode();
        program(y, "m01 m10");
        program(y, "m01");
        program(y, "m10 m01");
        program(y, "m10");
        y.addRule(0, 1, 7);
        y.addRule(2, 3, 7);
        program(y, "m10 m01");
        due(33, "once", 1, () -> y.rewrite(4, 7));
        due(34, "rule 0 exchanged", 1, () -> y.used(0));
        due(34, "rule 1", 0, () -> y.used(1));
        due(33, "m10", "2", () -> text(y, 4));
    }

    private static void shrink() {
        Leastcode x = new Leastcode();
        due(35, "no program", BOUNDS, () -> x.shrink(0, 0, 8));
        program(x, "l0 r0 l0 r0");
        due(35, "window 0", ARGUMENT, () -> x.shrink(0, 0, 7));
        due(35, "window 4", ARGUMENT, () -> x.shrink(0, 4, 7));
        due(35, "parts 8", ARGUMENT, () -> x.shrink(0, 1, 8));
        due(35, "parts -1", ARGUMENT, () -> x.shrink(0, 1, -1));
        due(35, "by one", 4, () -> x.shrink(0, 1, 7));
        due(35, "by three", 2, () -> x.shrink(0, 3, 7));
        due(35, "the first so", "4 38", () -> text(x, 0));
        int p = program(x, "m00 i0 c11 f");
        due(35, "what does nothing", 2, () -> x.shrink(p, 1, 7));
        due(35, "and is left", "32 46", () -> text(x, p));
        due(35, "and the dead one", 1, () -> x.shrink(p, 1, 3));
        due(35, "window beyond", 1, () -> x.shrink(p, 2, 0));
        due(35, "nothing lives", 0, () -> x.shrink(p, 1, 0));
        due(35, "empty", 0, () -> x.shrink(p, 3, 7));
        int q = program(x, "i0 i0 i0 i0 i0 i0 i0 i0");
        due(35, "no shorter", 8, () -> x.shrink(q, 2, 7));
        due(35, "three by two, as i0 thrice", 8, () -> x.shrink(q, 3, 7));
        int r = program(x, "t0 i0 i1 d1 t0");
        due(35, "first windows first", 3, () -> x.shrink(r, 2, 7));
        due(35, "t i t", "40 32 40", () -> text(x, r));
        due(35, "is d", 1, () -> x.shrink(r, 3, 7));
        due(35, "d0", "34", () -> text(x, r));
    }

    private static void checksum() {
        Leastcode x = new Leastcode();
        x.seed(9);
        program(x, "i0 f");
        program(x, "");
        x.setWait(3);
        x.price('i', 4);
        x.addGoal(0, 7);
        x.addGoal(1, 7);
        x.openRow(1, 0);
        x.openRow(1, 9);
        x.openRow(1, 9);
        long due = 7;
        for (int term : new int[] {32, 46, 5, 0, 0, 2, 9}) {
            due = 31 * due + term;
        }
        long all = due;
        due(36, "all", all, () -> x.checksum());
        due(36, "once more", all, () -> x.checksum());
        for (int i = 2; i < 8; i++) {
            program(x, "f f f f f f f f");
        }
        due = 7;
        for (int term : new int[] {32, 46, 5, 0}) {
            due = 31 * due + term;
        }
        for (int i = 2; i < 8; i++) {
            for (int k = 0; k < 8; k++) {
                due = 31 * due + 46;
            }
            due = 31 * due + 8 + 7 * 3;
        }
        for (int term : new int[] {0, 2, 9}) {
            due = 31 * due + term;
        }
        long wrapped = due;
        due(36, "beyond a long", wrapped, () -> x.checksum());
    }

    private static void shares() {
        Leastcode x = new Leastcode();
        due(37, "no goal", BOUNDS, () -> x.openShare(0));
        due(38, "none", ARITHMETIC, () -> x.meanSize());
        program(x, "");
        due(38, "an empty one", 0.0, () -> x.meanSize());
        x.addGoal(0, 7);
        due(37, "none open", 0.0f, () -> x.openShare(0));
        for (int i = 0; i < 128; i++) {
            x.openRow(0, i);
            float due = (i + 1) / 128f;
            due(37, "open " + (i + 1), due, () -> x.openShare(0));
        }
        x.setRow(0, 3, 3);
        due(37, "one less", 127 / 128f, () -> x.openShare(0));
        due(37, "-1", BOUNDS, () -> x.openShare(-1));
        due(37, "1", BOUNDS, () -> x.openShare(1));
        program(x, "f f f");
        due(38, "a half", 1.5, () -> x.meanSize());
        program(x, "f");
        due(38, "of three", 4.0 / 3.0, () -> x.meanSize());
    }

    private static void isSound() {
        Leastcode x = new Leastcode();
        due(39, "empty", true, () -> x.isSound());
        program(x, "m01 m10 i0 d0 k01 c01 f f");
        program(x, "i1 d1");
        program(x, "");
        x.addRule(1, 2, 7);
        due(39, "full", true, () -> x.isSound());
        due(39, "it takes nothing away", 8, () -> x.size(0));
        x.add(1, 'a', 0, 1);
        program(x, "z0");
        x.addRule(3, 2, 6);
        due(39, "a rule for parts", true, () -> x.isSound());
    }

    /** What is refused leaves all as it was. */
    private static void throwingChangesNothing() {
        Leastcode x = new Leastcode();
        program(x, "i0 f");
        x.addGoal(0, 7);
        x.least(0, 3);
        long before = x.checksum();
        due(3, "add", ARGUMENT, () -> x.add(0, 'a', 0, 2));
        due(8, "price", ARGUMENT, () -> x.price('i', 10));
        due(9, "wait", ARGUMENT, () -> x.setWait(6));
        due(17, "row", ARGUMENT, () -> x.setRow(0, 0, 128));
        due(26, "walk", ARGUMENT, () -> x.walk(0, 3, 201));
        due(24, "least", MISSING, () -> x.least(0, 1));
        due(25, "cheapest", MISSING, () -> x.cheapest(0, 1));
        due(27, "seed", ARGUMENT, () -> x.seed(0));
        due(20, "counter", MISSING, () -> x.counter(0, 0));
        due(23, "killer", MISSING, () -> x.killer());
        due(32, "rule", UNSUPPORTED, () -> x.addRule(0, 0, 7));
        due(34, "no rule", BOUNDS, () -> x.used(0));
        due(28, "found", 2, () -> x.foundSize());
        due(36, "checksum", before, () -> x.checksum());
    }
}
