import java.util.ArrayList;
import java.util.Arrays;
import java.util.HashSet;
import java.util.List;
import java.util.NoSuchElementException;
import java.util.Random;
import java.util.Set;

/**
 * Runs of calls by lots, answered by Leastcode and by a plain second writing of the document,
 * which tries everything one by one: each answer and each exception must be alike.
 */
public final class OracleTest {
    private static final int RUNS = 400;
    private static final int CALLS = 512;
    private static final int[] ANSWERED = new int[40];
    private static int wrong = 0;

    public static void main(String[] args) {
        for (int seed = 1; seed <= RUNS && wrong == 0; seed++) {
            new OneRun(seed).play();
        }
        for (int promise = 2; promise <= 39; promise++) {
            if (ANSWERED[promise] == 0 && wrong == 0) {
                wrong++;
                System.out.println("no run had an answer of promise " + promise);
            }
        }
        System.out.println(wrong == 0
                ? RUNS + " runs of " + CALLS + " calls answered alike" : "answers differ");
        if (wrong != 0) {
            System.exit(1);
        }
    }

    /** A call that answers a number, or throws. */
    private interface Call {
        Object answer();
    }

    private static String told(Call call) {
        try {
            return String.valueOf(call.answer());
        } catch (RuntimeException e) {
            return "throws." + e.getClass().getName();
        }
    }

    private static final class OneRun {
        private final Random lots;
        private final int seed;
        private final Leastcode x = new Leastcode();
        private final Plain y = new Plain();
        private final StringBuilder calls = new StringBuilder();
        private int made = 0;

        OneRun(int seed) {
            this.seed = seed;
            this.lots = new Random(seed);
        }

        void play() {
            int kind = seed % 4;
            int programs = lots.nextInt(9);
            for (int i = 0; i < programs; i++) {
                addWhole();
            }
            int goals = kind == 1 ? 0 : lots.nextInt(7);
            for (int i = 0; i < goals; i++) {
                addGoal(program(), live());
            }
            while (made < CALLS && wrong == 0) {
                if (kind == 1 && lots.nextInt(4) == 0) {
                    rulesInUse();
                } else if (kind == 2 && lots.nextInt(4) == 0) {
                    fillAndShrink();
                } else if (kind == 3 && lots.nextInt(4) == 0) {
                    seek();
                } else {
                    one();
                }
            }
        }

        /** The answer of a call that both gave, or what differs, told once. */
        private void same(int promise, String call, Call of, Call due) {
            if (made >= CALLS || wrong != 0) {
                return;
            }
            made++;
            String got = told(of);
            String want = told(due);
            calls.append(call).append(" = ").append(want).append('\n');
            if (!want.startsWith("throws.")) {
                ANSWERED[promise]++;
            }
            if (!got.equals(want)) {
                wrong++;
                System.out.println("run " + seed + ", call " + made + ":\n" + calls);
                System.out.println("the last one answered " + got);
            }
        }

        private int number(int bound) {
            int lot = lots.nextInt(60);
            if (lot == 0) {
                return -1;
            }
            if (lot == 1) {
                return bound;
            }
            if (lot == 2) {
                return lots.nextBoolean() ? Integer.MIN_VALUE : Integer.MAX_VALUE;
            }
            return lots.nextInt(bound);
        }

        private int program() {
            return number(Math.max(1, y.programs.size()));
        }

        private int goal() {
            return number(Math.max(1, y.goals.size()));
        }

        private int live() {
            return lots.nextInt(3) == 0 ? 7 : number(8);
        }

        private int within(int low, int high) {
            return low + number(high - low + 1);
        }

        private char kind() {
            return lots.nextInt(80) == 0 ? (char) lots.nextInt(300)
                    : Plain.KINDS.charAt(lots.nextInt(16));
        }

        private void addTo(int p) {
            char k = kind();
            int f = number(2);
            int s = number(2);
            same(3, "add(" + p + ", '" + k + "', " + f + ", " + s + ")",
                    () -> x.add(p, k, f, s), () -> y.add(p, k, f, s));
        }

        private void addWhole() {
            same(2, "addProgram()", () -> x.addProgram(), () -> y.addProgram());
            int p = y.programs.size() - 1;
            int n = lots.nextInt(6);
            for (int i = 0; i < n; i++) {
                addTo(p);
            }
        }

        private void least(int g, int m) {
            same(24, "least(" + g + ", " + m + ")", () -> x.least(g, m), () -> y.least(g, m));
        }

        private void allFound() {
            same(28, "foundSize()", () -> x.foundSize(), () -> y.foundSize());
            int n0 = y.found == null ? 0 : y.found.size();
            for (int i = lots.nextInt(8) == 0 ? -1 : 0; i <= n0; i++) {
                int n = i;
                same(29, "foundAt(" + n + ")", () -> x.foundAt(n), () -> y.foundAt(n));
            }
        }

        private void everyInstruction(int p) {
            int n0 = p >= 0 && p < y.programs.size() ? y.programs.get(p).size() : 0;
            for (int i = lots.nextInt(8) == 0 ? -1 : 0; i <= n0; i++) {
                int n = i;
                same(6, "at(" + p + ", " + n + ")", () -> x.at(p, n), () -> y.at(p, n));
            }
        }

        private void keep() {
            same(30, "keep()", () -> x.keep(), () -> y.keep());
        }

        private void addGoal(int p, int l) {
            same(16, "addGoal(" + p + ", " + l + ")", () -> x.addGoal(p, l), () -> y.addGoal(p, l));
        }

        private void addRule(int a, int b, int l) {
            same(32, "addRule(" + a + ", " + b + ", " + l + ")",
                    () -> x.addRule(a, b, l), () -> y.addRule(a, b, l));
        }

        private void clear(int p) {
            while (made < CALLS && wrong == 0 && !y.programs.get(p).isEmpty()) {
                same(4, "drop(" + p + ")", () -> x.drop(p), () -> y.drop(p));
            }
        }

        private void addOps(int p, List<Op> ops) {
            for (Op op : ops) {
                same(3, "add(" + p + ", " + op + ")", () -> x.add(p, op.kind, op.first, op.second),
                        () -> y.add(p, op.kind, op.first, op.second));
            }
        }

        private void rewrite(int p, int l) {
            same(33, "rewrite(" + p + ", " + l + ")", () -> x.rewrite(p, l), () -> y.rewrite(p, l));
            everyInstruction(p);
        }

        private void allUsed() {
            for (int i = 0; i < y.rules.size(); i++) {
                int r = i;
                same(34, "used(" + r + ")", () -> x.used(r), () -> y.used(r));
            }
            int r = number(9);
            same(34, "used(" + r + ")", () -> x.used(r), () -> y.used(r));
        }

        /** Makes program 0 a left side, program 1 a right one, mostly such that a rule stands. */
        private void makeRule() {
            clear(0);
            clear(1);
            int n = 1 + lots.nextInt(3);
            for (int i = 0; i < n; i++) {
                addTo(0);
            }
            int l = live();
            List<Op> left = y.programs.get(0);
            if (lots.nextInt(3) != 0) {
                for (Op op : left) {
                    l &= ~op.writes();
                }
            } else if (y.goals.size() < 6) {
                int g = y.goals.size();
                addGoal(0, l);
                if (y.goals.size() > g) {
                    least(g, 2);
                    allFound();
                    if (y.found != null) {
                        addOps(1, y.found);
                    }
                }
            }
            addRule(0, 1, l);
        }

        /** Fills program 2 with left sides of rules and others, and rewrites it. */
        private void useRules() {
            clear(2);
            int pieces = lots.nextInt(7);
            for (int i = 0; i < pieces; i++) {
                if (y.rules.isEmpty() || lots.nextInt(3) == 0) {
                    addTo(2);
                } else {
                    List<Op> left = y.rules.get(lots.nextInt(y.rules.size())).left;
                    addOps(2, lots.nextBoolean() ? left : Plain.exchanged(left));
                }
            }
            rewrite(2, live());
            allUsed();
        }

        private void rulesInUse() {
            if (y.programs.size() < 3) {
                addWhole();
                return;
            }
            if (lots.nextInt(3) != 0) {
                makeRule();
            }
            useRules();
        }

        private void cheapest(int g, int m) {
            same(25, "cheapest(" + g + ", " + m + ")",
                    () -> x.cheapest(g, m), () -> y.cheapest(g, m));
            allFound();
        }

        /** A goal, some of whose rows are open or otherwise, and a search for it with prices. */
        private void seek() {
            int g = goal();
            int open = lots.nextInt(20) == 0 ? 100 : lots.nextInt(5);
            for (int i = 0; i < open; i++) {
                int row = number(128);
                same(18, "openRow(" + g + ", " + row + ")",
                        () -> x.openRow(g, row), () -> y.openRow(g, row));
            }
            char k = kind();
            int c = within(1, 9);
            same(8, "price('" + k + "', " + c + ")", () -> x.price(k, c), () -> y.price(k, c));
            if (lots.nextBoolean()) {
                least(g, within(0, 3));
                allFound();
            }
            cheapest(g, within(0, 3));
        }

        private void shrink(int p) {
            int w = within(1, 3);
            int l = live();
            same(35, "shrink(" + p + ", " + w + ", " + l + ")",
                    () -> x.shrink(p, w, l), () -> y.shrink(p, w, l));
            everyInstruction(p);
        }

        private void fillAndShrink() {
            if (y.programs.isEmpty()) {
                addWhole();
                return;
            }
            int p = lots.nextInt(y.programs.size());
            clear(p);
            int n = 2 + lots.nextInt(8);
            for (int i = 0; i < n; i++) {
                addTo(p);
            }
            shrink(p);
        }

        private void one() {
            int p = program();
            int o = program();
            int g = goal();
            int l = live();
            int n = number(9);
            int state = number(128);
            switch (lots.nextInt(46)) {
                case 0: {
                    if (lots.nextInt(3) == 0) {
                        addWhole();
                    }
                    break;
                }
                case 1: case 2: case 3: case 4: addTo(p); break;
                case 5: {
                    same(4, "drop(" + p + ")", () -> x.drop(p), () -> y.drop(p));
                    break;
                }
                case 6: same(5, "size(" + p + ")", () -> x.size(p), () -> y.size(p)); break;
                case 7: everyInstruction(p); break;
                case 8: case 9: {
                    same(7, "run(" + p + ", " + state + ")",
                            () -> x.run(p, state), () -> y.run(p, state));
                    break;
                }
                case 10: {
                    char k = kind();
                    int c = within(1, 9);
                    same(8, "price('" + k + "', " + c + ")", () -> x.price(k, c), () -> y.price(k, c));
                    break;
                }
                case 11: {
                    int c = within(0, 5);
                    same(9, "setWait(" + c + ")", () -> x.setWait(c), () -> y.setWait(c));
                    break;
                }
                case 12: same(10, "cost(" + p + ")", () -> x.cost(p), () -> y.cost(p)); break;
                case 13: same(11, "reads(" + p + ")", () -> x.reads(p), () -> y.reads(p)); break;
                case 14: {
                    same(12, "lives(" + p + ", " + n + ", " + l + ")",
                            () -> x.lives(p, n, l), () -> y.lives(p, n, l));
                    break;
                }
                case 15: {
                    same(13, "isDead(" + p + ", " + n + ", " + l + ")",
                            () -> x.isDead(p, n, l), () -> y.isDead(p, n, l));
                    break;
                }
                case 16: {
                    same(14, "sweep(" + p + ", " + l + ")", () -> x.sweep(p, l), () -> y.sweep(p, l));
                    everyInstruction(p);
                    break;
                }
                case 17: {
                    same(15, "isSame(" + p + ", " + o + ", " + l + ")",
                            () -> x.isSame(p, o, l), () -> y.isSame(p, o, l));
                    break;
                }
                case 18: {
                    if (lots.nextInt(3) == 0) {
                        addGoal(p, l);
                    }
                    break;
                }
                case 19: case 20: {
                    int w = number(128);
                    same(17, "setRow(" + g + ", " + state + ", " + w + ")",
                            () -> x.setRow(g, state, w), () -> y.setRow(g, state, w));
                    break;
                }
                case 21: {
                    int rows = lots.nextInt(8) == 0 ? 100 : 4;
                    for (int i = 0; i < rows; i++) {
                        int row = number(128);
                        same(18, "openRow(" + g + ", " + row + ")",
                                () -> x.openRow(g, row), () -> y.openRow(g, row));
                    }
                    break;
                }
                case 22: {
                    same(19, "meets(" + g + ", " + p + ")", () -> x.meets(g, p), () -> y.meets(g, p));
                    break;
                }
                case 23: {
                    same(20, "counter(" + g + ", " + p + ")",
                            () -> x.counter(g, p), () -> y.counter(g, p));
                    break;
                }
                case 24: {
                    same(21, "wrong(" + g + ", " + p + ")", () -> x.wrong(g, p), () -> y.wrong(g, p));
                    break;
                }
                case 25: case 26: {
                    int s = lots.nextBoolean() ? number(6) : state;
                    same(22, "kills(" + s + ")", () -> x.kills(s), () -> y.kills(s));
                    break;
                }
                case 27: same(23, "killer()", () -> x.killer(), () -> y.killer()); break;
                case 28: case 29: {
                    least(g, within(0, 3));
                    allFound();
                    break;
                }
                case 30: case 31: {
                    cheapest(g, within(0, 3));
                    break;
                }
                case 32: case 33: {
                    int length = within(1, 4);
                    int steps = within(1, 200);
                    same(26, "walk(" + g + ", " + length + ", " + steps + ")",
                            () -> x.walk(g, length, steps), () -> y.walk(g, length, steps));
                    allFound();
                    break;
                }
                case 34: {
                    int z = lots.nextInt(6) == 0 ? lots.nextInt(3) - 1
                            : lots.nextInt(6) == 0 ? 2147483647 - lots.nextInt(3) : lots.nextInt();
                    same(27, "seed(" + z + ")", () -> x.seed(z), () -> y.seed(z));
                    break;
                }
                case 35: {
                    if (lots.nextInt(3) == 0) {
                        keep();
                    }
                    break;
                }
                case 36: {
                    int length = within(0, 2);
                    same(31, "unlike(" + length + ")", () -> x.unlike(length), () -> y.unlike(length));
                    break;
                }
                case 37: case 38: addRule(p, o, l); break;
                case 39: case 40: rewrite(p, l); break;
                case 41: allUsed(); break;
                case 42: shrink(p); break;
                case 43: same(36, "checksum()", () -> x.checksum(), () -> y.checksum()); break;
                case 44: {
                    same(37, "openShare(" + g + ")", () -> x.openShare(g), () -> y.openShare(g));
                    break;
                }
                default: {
                    same(38, "meanSize()", () -> x.meanSize(), () -> y.meanSize());
                    same(39, "isSound()", () -> x.isSound(), () -> y.isSound());
                    break;
                }
            }
        }
    }

    /** One instruction, with registers that have no meaning told as 0. */
    private record Op(char kind, int first, int second) {
        boolean hasFirst() {
            return kind != 'f';
        }

        boolean hasSecond() {
            return "masnoxkc".indexOf(kind) >= 0;
        }

        Op exchanged() {
            return new Op(kind, hasFirst() ? 1 - first : 0, hasSecond() ? 1 - second : 0);
        }

        int reads() {
            int one = 1 << first;
            int two = 1 << second;
            return switch (kind) {
                case 'm' -> two;
                case 'z' -> 0;
                case 'f' -> 4;
                case 'b' -> one | 4;
                case 'c' -> one | two | 4;
                default -> hasSecond() ? one | two : one;
            };
        }

        int writes() {
            return switch (kind) {
                case 'k', 'f' -> 4;
                case 'a', 's', 'l', 'r' -> 1 << first | 4;
                default -> 1 << first;
            };
        }

        int after(int state) {
            int[] r = {state / 16, state / 2 % 8};
            int flag = state % 2;
            int a = r[first];
            int b = r[second];
            switch (kind) {
                case 'm' -> r[first] = b;
                case 'a' -> {
                    r[first] = (a + b) % 8;
                    flag = a + b > 7 ? 1 : 0;
                }
                case 's' -> {
                    r[first] = (a - b + 8) % 8;
                    flag = a < b ? 1 : 0;
                }
                case 'n' -> r[first] = a & b;
                case 'o' -> r[first] = a | b;
                case 'x' -> r[first] = a ^ b;
                case 'k' -> flag = a < b ? 1 : 0;
                case 'c' -> r[first] = flag == 1 ? b : a;
                case 'i' -> r[first] = (a + 1) % 8;
                case 'd' -> r[first] = (a + 7) % 8;
                case 'l' -> {
                    r[first] = 2 * a % 8;
                    flag = 2 * a > 7 ? 1 : 0;
                }
                case 'r' -> {
                    r[first] = a / 2;
                    flag = a % 2;
                }
                case 't' -> r[first] = 7 - a;
                case 'z' -> r[first] = 0;
                case 'b' -> r[first] = (a + flag) % 8;
                default -> flag = 1 - flag;
            }
            return 16 * r[0] + 2 * r[1] + flag;
        }
    }

    private static final class Row {
        int[] wanted = new int[128];
        boolean[] open = new boolean[128];
        int live;
    }

    private static final class Told {
        List<Op> left;
        List<Op> right;
        int live;
        int used;
    }

    /** The document once more, in its plainest form. */
    private static final class Plain {
        static final String KINDS = "masnoxkcidlrtzbf";
        static final List<Op> ORDER = order();
        static final int[][] EFFECT = effects();
        static final int[] UNLIKE = unlikeCounts();

        final List<List<Op>> programs = new ArrayList<>();
        final List<Row> goals = new ArrayList<>();
        final List<Told> rules = new ArrayList<>();
        final int[] prices = new int[16];
        int wait = 0;
        final int[] kills = new int[128];
        long z = 1;
        List<Op> found = null;

        Plain() {
            Arrays.fill(prices, 1);
        }

        static List<Op> order() {
            List<Op> all = new ArrayList<>();
            for (char kind : KINDS.toCharArray()) {
                for (int f = 0; f < (kind == 'f' ? 1 : 2); f++) {
                    for (int s = 0; s < ("masnoxkc".indexOf(kind) >= 0 ? 2 : 1); s++) {
                        all.add(new Op(kind, f, s));
                    }
                }
            }
            return all;
        }

        static int[][] effects() {
            int[][] all = new int[ORDER.size()][128];
            for (int i = 0; i < all.length; i++) {
                for (int s = 0; s < 128; s++) {
                    all[i][s] = ORDER.get(i).after(s);
                }
            }
            return all;
        }

        static int[] unlikeCounts() {
            int[] counts = new int[3];
            Set<List<Integer>> seen = new HashSet<>();
            for (int length = 0; length <= 2; length++) {
                for (int[] c : candidates(length)) {
                    List<Integer> effect = new ArrayList<>();
                    for (int s = 0; s < 128; s++) {
                        effect.add(through(c, s));
                    }
                    seen.add(effect);
                }
                counts[length] = seen.size();
            }
            return counts;
        }

        static List<int[]> candidates(int length) {
            List<int[]> all = new ArrayList<>();
            int count = (int) Math.round(Math.pow(47, length));
            for (int i = 0; i < count; i++) {
                int[] c = new int[length];
                int rest = i;
                for (int k = length - 1; k >= 0; k--) {
                    c[k] = rest % 47;
                    rest /= 47;
                }
                all.add(c);
            }
            return all;
        }

        static final List<List<int[]>> BY_LENGTH = byLength();

        static List<List<int[]>> byLength() {
            List<List<int[]>> all = new ArrayList<>();
            for (int length = 0; length <= 3; length++) {
                all.add(candidates(length));
            }
            return all;
        }

        static int through(int[] codes, int state) {
            int result = state;
            for (int c : codes) {
                result = EFFECT[c][result];
            }
            return result;
        }

        static int through(List<Op> ops, int state) {
            int result = state;
            for (Op op : ops) {
                result = op.after(result);
            }
            return result;
        }

        static List<Op> ops(int[] codes) {
            List<Op> list = new ArrayList<>();
            for (int c : codes) {
                list.add(ORDER.get(c));
            }
            return list;
        }

        static int differing(int one, int two, int live) {
            int count = 0;
            if ((live & 1) != 0) {
                count += Integer.bitCount(one / 16 ^ two / 16);
            }
            if ((live & 2) != 0) {
                count += Integer.bitCount(one / 2 % 8 ^ two / 2 % 8);
            }
            if ((live & 4) != 0) {
                count += one % 2 ^ two % 2;
            }
            return count;
        }

        static boolean alike(List<Op> one, List<Op> two, int live) {
            for (int s = 0; s < 128; s++) {
                if (differing(through(one, s), through(two, s), live) != 0) {
                    return false;
                }
            }
            return true;
        }

        List<Op> program(int p) {
            if (p < 0 || p >= programs.size()) {
                throw new IndexOutOfBoundsException();
            }
            return programs.get(p);
        }

        Row goal(int g) {
            if (g < 0 || g >= goals.size()) {
                throw new IndexOutOfBoundsException();
            }
            return goals.get(g);
        }

        static void need(boolean held) {
            if (!held) {
                throw new IllegalArgumentException();
            }
        }

        static void parts(int live) {
            need(live >= 0 && live <= 7);
        }

        static void state(int s) {
            need(s >= 0 && s < 128);
        }

        int addProgram() {
            if (programs.size() == 8) {
                throw new IllegalStateException();
            }
            programs.add(new ArrayList<>());
            return programs.size() - 1;
        }

        int add(int p, char kind, int first, int second) {
            List<Op> ops = program(p);
            need(KINDS.indexOf(kind) >= 0);
            Op asked = new Op(kind, 0, 0);
            need(!asked.hasFirst() || first == 0 || first == 1);
            need(!asked.hasSecond() || second == 0 || second == 1);
            if (ops.size() == 8) {
                throw new IllegalStateException();
            }
            ops.add(new Op(kind, asked.hasFirst() ? first : 0, asked.hasSecond() ? second : 0));
            return ops.size();
        }

        int drop(int p) {
            List<Op> ops = program(p);
            if (ops.isEmpty()) {
                throw new NoSuchElementException();
            }
            ops.remove(ops.size() - 1);
            return ops.size();
        }

        int size(int p) {
            return program(p).size();
        }

        static Op one(List<Op> ops, int index) {
            if (index < 0 || index >= ops.size()) {
                throw new NoSuchElementException();
            }
            return ops.get(index);
        }

        int at(int p, int index) {
            return ORDER.indexOf(one(program(p), index));
        }

        int run(int p, int s) {
            List<Op> ops = program(p);
            state(s);
            return through(ops, s);
        }

        int price(char kind, int cost) {
            need(KINDS.indexOf(kind) >= 0 && cost >= 1 && cost <= 9);
            int before = prices[KINDS.indexOf(kind)];
            prices[KINDS.indexOf(kind)] = cost;
            return before;
        }

        int setWait(int cost) {
            need(cost >= 0 && cost <= 5);
            int before = wait;
            wait = cost;
            return before;
        }

        int costOf(List<Op> ops) {
            int sum = 0;
            for (int i = 0; i < ops.size(); i++) {
                sum += prices[KINDS.indexOf(ops.get(i).kind)];
                if (i > 0 && (ops.get(i).reads() & ops.get(i - 1).writes()) != 0) {
                    sum += wait;
                }
            }
            return sum;
        }

        int cost(int p) {
            return costOf(program(p));
        }

        static int behind(List<Op> ops, int index, int live) {
            if (index == ops.size() - 1) {
                return live;
            }
            Op next = ops.get(index + 1);
            int later = behind(ops, index + 1, live);
            int ahead = later & ~next.writes();
            return (later & next.writes()) != 0 ? ahead | next.reads() : ahead;
        }

        int reads(int p) {
            return behind(program(p), -1, 7);
        }

        int lives(int p, int index, int live) {
            List<Op> ops = program(p);
            parts(live);
            one(ops, index);
            return behind(ops, index, live);
        }

        boolean isDead(int p, int index, int live) {
            return (lives(p, index, live) & program(p).get(index).writes()) == 0;
        }

        static boolean sweepOnce(List<Op> ops, int live) {
            for (int i = ops.size() - 1; i >= 0; i--) {
                if ((ops.get(i).writes() & behind(ops, i, live)) == 0) {
                    ops.remove(i);
                    return true;
                }
            }
            return false;
        }

        int sweep(int p, int live) {
            List<Op> ops = program(p);
            parts(live);
            while (sweepOnce(ops, live)) {
                continue;
            }
            return ops.size();
        }

        boolean isSame(int p, int o, int live) {
            List<Op> one = program(p);
            List<Op> two = program(o);
            parts(live);
            return alike(one, two, live);
        }

        int addGoal(int p, int live) {
            List<Op> ops = program(p);
            parts(live);
            if (goals.size() == 6) {
                throw new IllegalStateException();
            }
            Row goal = new Row();
            goal.live = live;
            for (int s = 0; s < 128; s++) {
                goal.wanted[s] = through(ops, s);
            }
            goals.add(goal);
            return goals.size() - 1;
        }

        int setRow(int g, int s, int wanted) {
            Row goal = goal(g);
            state(s);
            state(wanted);
            int before = goal.open[s] ? -1 : goal.wanted[s];
            goal.open[s] = false;
            goal.wanted[s] = wanted;
            return before;
        }

        boolean openRow(int g, int s) {
            Row goal = goal(g);
            state(s);
            boolean before = goal.open[s];
            goal.open[s] = true;
            return before;
        }

        static int wrongAt(Row goal, int s, int got) {
            return goal.open[s] ? 0 : differing(goal.wanted[s], got, goal.live);
        }

        int lowestWrong(int g, int p) {
            Row goal = goal(g);
            List<Op> ops = program(p);
            for (int s = 0; s < 128; s++) {
                if (wrongAt(goal, s, through(ops, s)) != 0) {
                    kills[s]++;
                    return s;
                }
            }
            return -1;
        }

        boolean meets(int g, int p) {
            return lowestWrong(g, p) < 0;
        }

        int counter(int g, int p) {
            int s = lowestWrong(g, p);
            if (s < 0) {
                throw new NoSuchElementException();
            }
            return s;
        }

        static int wrongBits(Row goal, List<Op> ops) {
            int sum = 0;
            for (int s = 0; s < 128; s++) {
                sum += wrongAt(goal, s, through(ops, s));
            }
            return sum;
        }

        int wrong(int g, int p) {
            Row goal = goal(g);
            return wrongBits(goal, program(p));
        }

        int kills(int s) {
            state(s);
            return kills[s];
        }

        int killer() {
            int best = -1;
            for (int s = 127; s >= 0; s--) {
                if (kills[s] > 0 && (best < 0 || kills[s] >= kills[best])) {
                    best = s;
                }
            }
            if (best < 0) {
                throw new NoSuchElementException();
            }
            return best;
        }

        static boolean fits(Row goal, int[] codes) {
            for (int s = 0; s < 128; s++) {
                if (wrongAt(goal, s, through(codes, s)) != 0) {
                    return false;
                }
            }
            return true;
        }

        int least(int g, int most) {
            Row goal = goal(g);
            need(most >= 0 && most <= 3);
            for (int length = 0; length <= most; length++) {
                for (int[] c : BY_LENGTH.get(length)) {
                    if (fits(goal, c)) {
                        found = ops(c);
                        return length;
                    }
                }
            }
            throw new NoSuchElementException();
        }

        int cheapest(int g, int most) {
            Row goal = goal(g);
            need(most >= 0 && most <= 3);
            List<Op> best = null;
            for (int length = 0; length <= most; length++) {
                for (int[] c : BY_LENGTH.get(length)) {
                    if (fits(goal, c) && (best == null || costOf(ops(c)) < costOf(best))) {
                        best = ops(c);
                    }
                }
            }
            if (best == null) {
                throw new NoSuchElementException();
            }
            found = best;
            return costOf(best);
        }

        int lot(int bound) {
            z = z * 48271 % 2147483647L;
            return (int) (z % bound);
        }

        int walk(int g, int length, int steps) {
            Row goal = goal(g);
            need(length >= 1 && length <= 4 && steps >= 1 && steps <= 200);
            List<Op> now = new ArrayList<>();
            for (int i = 0; i < length; i++) {
                now.add(ORDER.get(lot(47)));
            }
            List<List<Op>> taken = new ArrayList<>();
            taken.add(List.copyOf(now));
            for (int step = 1; step <= steps; step++) {
                List<Op> other = new ArrayList<>(now);
                int place = lot(length);
                other.set(place, ORDER.get(lot(47)));
                if (wrongBits(goal, other) <= wrongBits(goal, now)
                        || lot(100) < 20 * (steps - step) / steps) {
                    now = other;
                    taken.add(List.copyOf(now));
                }
            }
            int fewest = Integer.MAX_VALUE;
            for (List<Op> ops : taken) {
                if (wrongBits(goal, ops) < fewest) {
                    fewest = wrongBits(goal, ops);
                    found = ops;
                }
            }
            return fewest;
        }

        int seed(int now) {
            need(now >= 1 && now <= 2147483646);
            int before = (int) z;
            z = now;
            return before;
        }

        List<Op> found() {
            if (found == null) {
                throw new NoSuchElementException();
            }
            return found;
        }

        int foundSize() {
            return found().size();
        }

        int foundAt(int index) {
            return ORDER.indexOf(one(found(), index));
        }

        int keep() {
            List<Op> ops = found();
            int p = addProgram();
            programs.get(p).addAll(ops);
            return p;
        }

        int unlike(int length) {
            need(length >= 0 && length <= 2);
            return UNLIKE[length];
        }

        int addRule(int left, int right, int live) {
            List<Op> one = program(left);
            List<Op> two = program(right);
            parts(live);
            boolean told = two.size() >= one.size() || !alike(one, two, live);
            for (Told rule : rules) {
                told |= rule.left.equals(one);
            }
            if (told) {
                throw new UnsupportedOperationException();
            }
            if (rules.size() == 8) {
                throw new IllegalStateException();
            }
            Told rule = new Told();
            rule.left = List.copyOf(one);
            rule.right = List.copyOf(two);
            rule.live = live;
            rules.add(rule);
            return rules.size() - 1;
        }

        static List<Op> exchanged(List<Op> ops) {
            List<Op> list = new ArrayList<>();
            for (Op op : ops) {
                list.add(op.exchanged());
            }
            return list;
        }

        static int exchanged(int live) {
            return live / 4 * 4 + live % 2 * 2 + live / 2 % 2;
        }

        static boolean takeIf(
                List<Op> ops, int place, List<Op> left, List<Op> right, int kept, int live) {
            int end = place + left.size();
            if (end > ops.size() || !ops.subList(place, end).equals(left)
                    || (behind(ops, end - 1, live) & ~kept) != 0) {
                return false;
            }
            ops.subList(place, end).clear();
            ops.addAll(place, right);
            return true;
        }

        boolean rewriteOnce(List<Op> ops, int live) {
            for (int place = 0; place < ops.size(); place++) {
                for (Told rule : rules) {
                    if (takeIf(ops, place, rule.left, rule.right, rule.live, live)
                            || takeIf(ops, place, exchanged(rule.left), exchanged(rule.right),
                                    exchanged(rule.live), live)) {
                        rule.used++;
                        return true;
                    }
                }
            }
            return false;
        }

        int rewrite(int p, int live) {
            List<Op> ops = program(p);
            parts(live);
            int times = 0;
            while (rewriteOnce(ops, live)) {
                times++;
            }
            return times;
        }

        int used(int rule) {
            if (rule < 0 || rule >= rules.size()) {
                throw new IndexOutOfBoundsException();
            }
            return rules.get(rule).used;
        }

        static boolean shrinkOnce(List<Op> ops, int window, int live) {
            for (int place = 0; place + window <= ops.size(); place++) {
                List<Op> part = ops.subList(place, place + window);
                int later = behind(ops, place + window - 1, live);
                for (int length = 0; length < window; length++) {
                    for (int[] c : BY_LENGTH.get(length)) {
                        if (alike(part, ops(c), later)) {
                            part.clear();
                            ops.addAll(place, ops(c));
                            return true;
                        }
                    }
                }
            }
            return false;
        }

        int shrink(int p, int window, int live) {
            List<Op> ops = program(p);
            need(window >= 1 && window <= 3);
            parts(live);
            while (shrinkOnce(ops, window, live)) {
                continue;
            }
            return ops.size();
        }

        long checksum() {
            long sum = 7;
            for (List<Op> ops : programs) {
                for (Op op : ops) {
                    sum = 31 * sum + ORDER.indexOf(op);
                }
                sum = 31 * sum + costOf(ops);
            }
            for (Row goal : goals) {
                sum = 31 * sum + openCount(goal);
            }
            return 31 * sum + z;
        }

        static int openCount(Row goal) {
            int count = 0;
            for (boolean open : goal.open) {
                count += open ? 1 : 0;
            }
            return count;
        }

        float openShare(int g) {
            return openCount(goal(g)) / 128f;
        }

        double meanSize() {
            if (programs.isEmpty()) {
                throw new ArithmeticException();
            }
            double sum = 0;
            for (List<Op> ops : programs) {
                sum += ops.size();
            }
            return sum / programs.size();
        }

        boolean isSound() {
            return true;
        }
    }
}
