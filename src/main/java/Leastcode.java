import java.util.Arrays;
import java.util.NoSuchElementException;

/**
 * A bench for programs of a small machine with two registers and a flag: runs them, weighs them,
 * finds the shortest and the cheapest ones for a goal, and makes programs shorter.
 *
 * <p>All rows are made once, in constructors, and used again: a call makes no objects but the
 * exception that it throws, and once the rows for counting effects.
 */
public final class Leastcode {
    private static final int MOST_PROGRAMS = 8;
    private static final int MOST_GOALS = 6;
    private static final int MOST_RULES = 8;
    private static final int MOST_INSTRUCTIONS = 8;
    private static final int MOST_SEARCHED = 3;
    private static final int MOST_EFFECT_LENGTH = 2;

    private static final int STATES = 128;
    private static final int WORDS = 8;
    private static final int INSTRUCTIONS = 47;

    /** The kinds in their order: those with both registers, those with the first alone, 'f'. */
    private static final String KINDS = "masnoxkcidlrtzbf";
    private static final int KIND_COUNT = 16;
    private static final int FIRST_SINGLE_KIND = 8;
    private static final int FLAG_KIND = 15;
    private static final int FIRST_SINGLE_INSTRUCTION = 32;
    private static final int FLAG_INSTRUCTION = 46;

    private static final int PART_REGISTER_0 = 1;
    private static final int PART_REGISTER_1 = 2;
    private static final int PART_FLAG = 4;
    private static final int ALL_PARTS = 7;

    /** What an open row wants, and the answer where there is no such state, cost or number. */
    private static final int NONE = -1;

    private final Machine machine = new Machine();
    private final Prices prices = new Prices();
    private final Lots lots = new Lots();
    private final Search search = new Search(machine);

    private final Code[] programs = new Code[MOST_PROGRAMS];
    private int programCount;
    private final Goal[] goals = new Goal[MOST_GOALS];
    private int goalCount;
    private final Rule[] rules = new Rule[MOST_RULES];
    private int ruleCount;

    private final int[] killed = new int[STATES];
    private final int[] unlikeUpTo = new int[MOST_EFFECT_LENGTH + 1];
    private final Code found = new Code();
    private boolean hasFound;

    private final Code draft = new Code();
    private final Code shorter = new Code();
    private final Goal windowGoal = new Goal();

    /** Creates a bench without programs. */
    public Leastcode() {
        for (int i = 0; i < MOST_PROGRAMS; i++) {
            programs[i] = new Code();
        }
        for (int i = 0; i < MOST_GOALS; i++) {
            goals[i] = new Goal();
        }
        for (int i = 0; i < MOST_RULES; i++) {
            rules[i] = new Rule();
        }
    }

    // Programs.

    public int addProgram() throws IllegalStateException {
        refuseFullPrograms();
        int number = programCount;
        programCount++;
        return number;
    }

    public int add(int program, char kind, int first, int second)
            throws IndexOutOfBoundsException, IllegalArgumentException, IllegalStateException {
        Code code = programAt(program);
        int instruction = Machine.numberOf(kindAt(kind), first, second);
        if (instruction == NONE) {
            throw new IllegalArgumentException("no such register");
        }
        if (code.length() >= MOST_INSTRUCTIONS) {
            throw new IllegalStateException("the program is full");
        }
        code.append(instruction);
        return code.length();
    }

    public int drop(int program) throws IndexOutOfBoundsException, NoSuchElementException {
        Code code = programAt(program);
        if (code.length() == 0) {
            throw new NoSuchElementException("the program is empty");
        }
        code.dropLast();
        return code.length();
    }

    public int size(int program) throws IndexOutOfBoundsException {
        return programAt(program).length();
    }

    public int at(int program, int index)
            throws IndexOutOfBoundsException, NoSuchElementException {
        Code code = programAt(program);
        refuseMissing(code, index);
        return code.get(index);
    }

    public int run(int program, int state)
            throws IndexOutOfBoundsException, IllegalArgumentException {
        Code code = programAt(program);
        refuseBadState(state);
        return machine.through(code, state);
    }

    // Costs.

    public int price(char kind, int cost) throws IllegalArgumentException {
        int index = kindAt(kind);
        refuseOutside(cost, 1, 9);
        return prices.setPrice(index, cost);
    }

    public int setWait(int cost) throws IllegalArgumentException {
        refuseOutside(cost, 0, 5);
        return prices.setWaitCost(cost);
    }

    public int cost(int program) throws IndexOutOfBoundsException {
        return prices.costOf(machine, programAt(program));
    }

    // What lives and what is dead.

    public int reads(int program) throws IndexOutOfBoundsException {
        return machine.liveFrom(programAt(program), 0, ALL_PARTS);
    }

    public int lives(int program, int index, int live)
            throws IndexOutOfBoundsException, IllegalArgumentException, NoSuchElementException {
        Code code = programAt(program);
        refuseBadParts(live);
        refuseMissing(code, index);
        return machine.liveFrom(code, index + 1, live);
    }

    public boolean isDead(int program, int index, int live)
            throws IndexOutOfBoundsException, IllegalArgumentException, NoSuchElementException {
        Code code = programAt(program);
        refuseBadParts(live);
        refuseMissing(code, index);
        return machine.isIdle(code.get(index), machine.liveFrom(code, index + 1, live));
    }

    public int sweep(int program, int live)
            throws IndexOutOfBoundsException, IllegalArgumentException {
        Code code = programAt(program);
        refuseBadParts(live);
        machine.removeDead(code, live);
        return code.length();
    }

    public boolean isSame(int program, int other, int live)
            throws IndexOutOfBoundsException, IllegalArgumentException {
        Code one = programAt(program);
        Code two = programAt(other);
        refuseBadParts(live);
        return machine.areAlike(one, two, live);
    }

    // Goals.

    public int addGoal(int program, int live)
            throws IndexOutOfBoundsException, IllegalArgumentException, IllegalStateException {
        Code code = programAt(program);
        refuseBadParts(live);
        if (goalCount >= MOST_GOALS) {
            throw new IllegalStateException("there are all goals");
        }
        int number = goalCount;
        goals[number].wantEffect(machine, code, live);
        goalCount++;
        return number;
    }

    public int setRow(int goal, int state, int wanted)
            throws IndexOutOfBoundsException, IllegalArgumentException {
        Goal sought = goalAt(goal);
        refuseBadState(state);
        refuseBadState(wanted);
        return sought.changeRow(state, wanted);
    }

    public boolean openRow(int goal, int state)
            throws IndexOutOfBoundsException, IllegalArgumentException {
        Goal sought = goalAt(goal);
        refuseBadState(state);
        return sought.changeRow(state, NONE) == NONE;
    }

    public boolean meets(int goal, int program) throws IndexOutOfBoundsException {
        return askCounterexample(goal, program) == NONE;
    }

    public int counter(int goal, int program)
            throws IndexOutOfBoundsException, NoSuchElementException {
        int state = askCounterexample(goal, program);
        if (state == NONE) {
            throw new NoSuchElementException("the program meets the goal");
        }
        return state;
    }

    public int wrong(int goal, int program) throws IndexOutOfBoundsException {
        Goal sought = goalAt(goal);
        return sought.wrongBits(machine, programAt(program));
    }

    public int kills(int state) throws IllegalArgumentException {
        refuseBadState(state);
        return killed[state];
    }

    public int killer() throws NoSuchElementException {
        int most = 0;
        int state = NONE;
        for (int i = 0; i < STATES; i++) {
            if (killed[i] > most) {
                most = killed[i];
                state = i;
            }
        }
        if (state == NONE) {
            throw new NoSuchElementException("no state killed");
        }
        return state;
    }

    // Search and walk.

    public int least(int goal, int most)
            throws IndexOutOfBoundsException, IllegalArgumentException, NoSuchElementException {
        Goal sought = goalAt(goal);
        refuseOutside(most, 0, MOST_SEARCHED);
        if (!search.findLeast(sought, most, found)) {
            throw new NoSuchElementException("no program meets the goal");
        }
        hasFound = true;
        return found.length();
    }

    public int cheapest(int goal, int most)
            throws IndexOutOfBoundsException, IllegalArgumentException, NoSuchElementException {
        Goal sought = goalAt(goal);
        refuseOutside(most, 0, MOST_SEARCHED);
        int cost = search.findCheapest(sought, most, prices, found);
        if (cost == NONE) {
            throw new NoSuchElementException("no program meets the goal");
        }
        hasFound = true;
        return cost;
    }

    public int walk(int goal, int length, int steps)
            throws IndexOutOfBoundsException, IllegalArgumentException {
        Goal sought = goalAt(goal);
        refuseOutside(length, 1, 4);
        refuseOutside(steps, 1, 200);
        draft.clear();
        for (int i = 0; i < length; i++) {
            draft.append(lots.draw(INSTRUCTIONS));
        }
        hasFound = true;
        return walkOn(sought, steps);
    }

    public int seed(int z) throws IllegalArgumentException {
        refuseOutside(z, 1, Lots.MODULUS - 1);
        return lots.restart(z);
    }

    public int foundSize() throws NoSuchElementException {
        refuseNothingFound();
        return found.length();
    }

    public int foundAt(int index) throws NoSuchElementException {
        refuseNothingFound();
        refuseMissing(found, index);
        return found.get(index);
    }

    public int keep() throws NoSuchElementException, IllegalStateException {
        refuseNothingFound();
        refuseFullPrograms();
        int number = programCount;
        programs[number].copyFrom(found);
        programCount++;
        return number;
    }

    public int unlike(int length) throws IllegalArgumentException {
        refuseOutside(length, 0, MOST_EFFECT_LENGTH);
        if (unlikeUpTo[length] == 0) {
            new Effects(machine).countInto(unlikeUpTo);
        }
        return unlikeUpTo[length];
    }

    // Rules and windows.

    public int addRule(int left, int right, int live)
            throws IndexOutOfBoundsException, IllegalArgumentException,
            UnsupportedOperationException, IllegalStateException {
        Code leftSide = programAt(left);
        Code rightSide = programAt(right);
        refuseBadParts(live);
        if (!canBeRule(leftSide, rightSide, live)) {
            throw new UnsupportedOperationException("no rule can be made of these");
        }
        if (ruleCount >= MOST_RULES) {
            throw new IllegalStateException("there are all rules");
        }
        int number = ruleCount;
        rules[number].tell(machine, leftSide, rightSide, live);
        ruleCount++;
        return number;
    }

    public int rewrite(int program, int live)
            throws IndexOutOfBoundsException, IllegalArgumentException {
        Code code = programAt(program);
        refuseBadParts(live);
        int taken = 0;
        // Each rule taken makes the program shorter, so it can't be more often than this.
        while (taken < MOST_INSTRUCTIONS && rewriteOnce(code, live)) {
            taken++;
        }
        return taken;
    }

    public int used(int rule) throws IndexOutOfBoundsException {
        if (rule < 0 || rule >= ruleCount) {
            throw new IndexOutOfBoundsException("no such rule");
        }
        return rules[rule].timesTaken();
    }

    public int shrink(int program, int window, int live)
            throws IndexOutOfBoundsException, IllegalArgumentException {
        Code code = programAt(program);
        refuseOutside(window, 1, MOST_SEARCHED);
        refuseBadParts(live);
        int taken = 0;
        // Each window replaced makes the program shorter, so it can't be more often than this.
        while (taken < MOST_INSTRUCTIONS && shrinkOnce(code, window, live)) {
            taken++;
        }
        return code.length();
    }

    // Sums and checks over all.

    public long checksum() {
        long sum = 7;
        for (int i = 0; i < programCount; i++) {
            Code code = programs[i];
            for (int k = 0; k < code.length(); k++) {
                sum = 31 * sum + code.get(k);
            }
            sum = 31 * sum + prices.costOf(machine, code);
        }
        for (int i = 0; i < goalCount; i++) {
            sum = 31 * sum + goals[i].openRows();
        }
        return 31 * sum + lots.current();
    }

    public float openShare(int goal) throws IndexOutOfBoundsException {
        return (float) goalAt(goal).openRows() / (float) STATES;
    }

    public double meanSize() throws ArithmeticException {
        if (programCount == 0) {
            throw new ArithmeticException("there are no programs");
        }
        int sum = 0;
        for (int i = 0; i < programCount; i++) {
            sum += programs[i].length();
        }
        return (double) sum / (double) programCount;
    }

    public boolean isSound() {
        for (int i = 0; i < ruleCount; i++) {
            if (!rules[i].keepsItsParts(machine)) {
                return false;
            }
        }
        for (int i = 0; i < programCount; i++) {
            if (!isSoundProgram(programs[i])) {
                return false;
            }
        }
        return true;
    }

    // What several calls share.

    private Code programAt(int number) {
        if (number < 0 || number >= programCount) {
            throw new IndexOutOfBoundsException("no such program");
        }
        return programs[number];
    }

    private Goal goalAt(int number) {
        if (number < 0 || number >= goalCount) {
            throw new IndexOutOfBoundsException("no such goal");
        }
        return goals[number];
    }

    private static int kindAt(char letter) {
        for (int i = 0; i < KINDS.length(); i++) {
            if (KINDS.charAt(i) == letter) {
                return i;
            }
        }
        throw new IllegalArgumentException("no such kind");
    }

    private static void refuseOutside(int number, int lowest, int highest) {
        if (number < lowest || number > highest) {
            throw new IllegalArgumentException("a number is out of range");
        }
    }

    private static void refuseBadState(int state) {
        refuseOutside(state, 0, STATES - 1);
    }

    private static void refuseBadParts(int live) {
        refuseOutside(live, 0, ALL_PARTS);
    }

    private static void refuseMissing(Code code, int index) {
        if (index < 0 || index >= code.length()) {
            throw new NoSuchElementException("no such instruction");
        }
    }

    private void refuseNothingFound() {
        if (!hasFound) {
            throw new NoSuchElementException("nothing was found");
        }
    }

    private void refuseFullPrograms() {
        if (programCount >= MOST_PROGRAMS) {
            throw new IllegalStateException("there are all programs");
        }
    }

    /** The counterexample, which has killed by being asked for, or NONE. */
    private int askCounterexample(int goal, int program) {
        Goal sought = goalAt(goal);
        int state = sought.counterexample(machine, programAt(program));
        if (state >= 0 && state < STATES) {
            killed[state]++;
        }
        return state;
    }

    /** Walks from the draft; puts the first best one into what was found. */
    private int walkOn(Goal sought, int steps) {
        int wrong = sought.wrongBits(machine, draft);
        int fewest = wrong;
        found.copyFrom(draft);
        for (int left = steps - 1; left >= 0; left--) {
            int place = lots.draw(draft.length());
            int before = draft.get(place);
            draft.put(place, lots.draw(INSTRUCTIONS));
            int wrongNow = sought.wrongBits(machine, draft);
            if (wrongNow <= wrong || lots.draw(100) < patience(left, steps)) {
                wrong = wrongNow;
            } else {
                draft.put(place, before);
            }
            if (wrong < fewest) {
                fewest = wrong;
                found.copyFrom(draft);
            }
        }
        return fewest;
    }

    /** How many of a hundred lots let a worse program be taken. */
    private static int patience(int left, int steps) {
        return steps > 0 ? 20 * left / steps : 0;
    }

    private boolean canBeRule(Code left, Code right, int live) {
        if (right.length() >= left.length() || !machine.areAlike(left, right, live)) {
            return false;
        }
        for (int i = 0; i < ruleCount; i++) {
            if (rules[i].hasLeft(left)) {
                return false;
            }
        }
        return true;
    }

    private boolean rewriteOnce(Code code, int live) {
        for (int place = 0; place < code.length(); place++) {
            for (int i = 0; i < ruleCount; i++) {
                if (rules[i].takeAt(machine, code, place, live)) {
                    return true;
                }
            }
        }
        return false;
    }

    private boolean shrinkOnce(Code code, int window, int live) {
        for (int place = 0; place + window <= code.length(); place++) {
            draft.copyPart(code, place, window);
            windowGoal.wantEffect(machine, draft, machine.liveFrom(code, place + window, live));
            if (search.findLeast(windowGoal, window - 1, shorter)) {
                code.replace(place, window, shorter);
                return true;
            }
        }
        return false;
    }

    private boolean isSoundProgram(Code code) {
        if (code.length() > MOST_INSTRUCTIONS) {
            return false;
        }
        draft.copyFrom(code);
        machine.removeDead(draft, ALL_PARTS);
        return machine.areAlike(code, draft, ALL_PARTS);
    }

    /** A row of at most eight instructions, told by their numbers. */
    private static final class Code {
        private final int[] numbers = new int[MOST_INSTRUCTIONS];
        private int length;

        int length() {
            return length;
        }

        int get(int index) {
            return index >= 0 && index < MOST_INSTRUCTIONS ? numbers[index] : 0;
        }

        void put(int index, int instruction) {
            if (index >= 0 && index < MOST_INSTRUCTIONS) {
                numbers[index] = instruction;
            }
        }

        void clear() {
            length = 0;
        }

        void append(int instruction) {
            if (length >= 0 && length < MOST_INSTRUCTIONS) {
                numbers[length] = instruction;
                length++;
            }
        }

        void dropLast() {
            if (length > 0) {
                length--;
            }
        }

        void copyFrom(Code other) {
            copyPart(other, 0, other.length);
        }

        void copyPart(Code other, int place, int count) {
            clear();
            for (int i = 0; i < count; i++) {
                append(other.get(place + i));
            }
        }

        void copyMirrored(Machine machine, Code other) {
            clear();
            for (int i = 0; i < other.length; i++) {
                append(machine.mirrored(other.get(i)));
            }
        }

        boolean holdsAt(int place, Code part) {
            if (place + part.length > length) {
                return false;
            }
            for (int i = 0; i < part.length; i++) {
                if (get(place + i) != part.get(i)) {
                    return false;
                }
            }
            return true;
        }

        boolean equalsCode(Code other) {
            return length == other.length && holdsAt(0, other);
        }

        /** Puts a row of at most as many instructions in the place of some. */
        void replace(int place, int count, Code with) {
            int less = count - with.length;
            if (less < 0) {
                return;
            }
            for (int i = 0; i < with.length; i++) {
                put(place + i, with.get(i));
            }
            for (int i = place + count; i < length; i++) {
                put(i - less, get(i));
            }
            length -= less;
        }

        void removeAt(int place) {
            for (int i = place + 1; i < length; i++) {
                put(i - 1, get(i));
            }
            dropLast();
        }

        /** Becomes the first of all rows of a length. */
        void startCounting(int size) {
            clear();
            for (int i = 0; i < size; i++) {
                append(0);
            }
        }

        /** Becomes the next row of the same length in the order. */
        void countOn() {
            for (int i = length - 1; i >= 0; i--) {
                int next = get(i) + 1;
                if (next < INSTRUCTIONS) {
                    put(i, next);
                    return;
                }
                put(i, 0);
            }
        }
    }

    /** What the instructions do, read and write, told by their numbers. */
    private static final class Machine {
        private final int[] next = new int[INSTRUCTIONS * STATES];
        private final int[] readParts = new int[INSTRUCTIONS];
        private final int[] writtenParts = new int[INSTRUCTIONS];
        private final int[] mirrors = new int[INSTRUCTIONS];

        // For a state and a word wanted of a part: the instructions that bring it, as bits.
        private final long[] toRegister0 = new long[STATES * WORDS];
        private final long[] toRegister1 = new long[STATES * WORDS];
        private final long[] toFlag = new long[STATES * 2];

        Machine() {
            for (int i = 0; i < INSTRUCTIONS; i++) {
                int kind = kindOf(i);
                char letter = letterOf(kind);
                int first = firstOf(i);
                int second = secondOf(i);
                readParts[i] = partsRead(letter, kind, first, second);
                writtenParts[i] = partsWritten(letter, first);
                mirrors[i] = numberOf(kind, 1 - first, 1 - second);
                for (int state = 0; state < STATES; state++) {
                    int result = effect(letter, first, second, state);
                    next[i * STATES + state] = result;
                    toRegister0[state * WORDS + register(result, 0)] |= 1L << i;
                    toRegister1[state * WORDS + register(result, 1)] |= 1L << i;
                    toFlag[state * 2 + (result & 1)] |= 1L << i;
                }
            }
        }

        /** The number of an instruction, or NONE if a register that has a meaning is none. */
        static int numberOf(int kind, int first, int second) {
            if (kind >= FLAG_KIND) {
                return FLAG_INSTRUCTION;
            }
            if (first < 0 || first > 1) {
                return NONE;
            }
            if (kind >= FIRST_SINGLE_KIND) {
                return FIRST_SINGLE_INSTRUCTION + 2 * (kind - FIRST_SINGLE_KIND) + first;
            }
            if (second < 0 || second > 1) {
                return NONE;
            }
            return 4 * kind + 2 * first + second;
        }

        private static char letterOf(int kind) {
            return kind >= 0 && kind < KINDS.length() ? KINDS.charAt(kind) : ' ';
        }

        static int kindOf(int instruction) {
            if (instruction < FIRST_SINGLE_INSTRUCTION) {
                return instruction >> 2;
            }
            return FIRST_SINGLE_KIND + (instruction - FIRST_SINGLE_INSTRUCTION >> 1);
        }

        private static int firstOf(int instruction) {
            return instruction < FIRST_SINGLE_INSTRUCTION ? instruction >> 1 & 1 : instruction & 1;
        }

        private static int secondOf(int instruction) {
            return instruction & 1;
        }

        private static int partsRead(char letter, int kind, int first, int second) {
            switch (letter) {
                case 'm':
                    return 1 << second;
                case 'z':
                    return 0;
                case 'f':
                    return PART_FLAG;
                case 'b':
                    return 1 << first | PART_FLAG;
                case 'c':
                    return 1 << first | 1 << second | PART_FLAG;
                default:
                    return kind < FIRST_SINGLE_KIND ? 1 << first | 1 << second : 1 << first;
            }
        }

        private static int partsWritten(char letter, int first) {
            switch (letter) {
                case 'k':
                case 'f':
                    return PART_FLAG;
                case 'a':
                case 's':
                case 'l':
                case 'r':
                    return 1 << first | PART_FLAG;
                default:
                    return 1 << first;
            }
        }

        private static int effect(char letter, int first, int second, int state) {
            int one = register(state, first);
            int two = register(state, second);
            int flag = state & 1;
            switch (letter) {
                case 'm':
                    return withRegister(state, first, two);
                case 'a':
                    return withFlag(withRegister(state, first, one + two), one + two > 7);
                case 's':
                    return withFlag(withRegister(state, first, one - two), one < two);
                case 'n':
                    return withRegister(state, first, one & two);
                case 'o':
                    return withRegister(state, first, one | two);
                case 'x':
                    return withRegister(state, first, one ^ two);
                case 'k':
                    return withFlag(state, one < two);
                case 'c':
                    return flag == 1 ? withRegister(state, first, two) : state;
                case 'i':
                    return withRegister(state, first, one + 1);
                case 'd':
                    return withRegister(state, first, one - 1);
                case 'l':
                    return withFlag(withRegister(state, first, 2 * one), 2 * one > 7);
                case 'r':
                    return withFlag(withRegister(state, first, one >> 1), (one & 1) == 1);
                case 't':
                    return withRegister(state, first, 7 - one);
                case 'z':
                    return withRegister(state, first, 0);
                case 'b':
                    return withRegister(state, first, one + flag);
                default:
                    return withFlag(state, flag == 0);
            }
        }

        private static int register(int state, int number) {
            return number == 0 ? state >> 4 & 7 : state >> 1 & 7;
        }

        private static int withRegister(int state, int number, int word) {
            return number == 0 ? state & 0x0F | (word & 7) << 4 : state & 0x71 | (word & 7) << 1;
        }

        private static int withFlag(int state, boolean flag) {
            return flag ? state | 1 : state & 0x7E;
        }

        /** The bits of a state that belong to parts. */
        static int bitsOf(int parts) {
            return ((parts & PART_REGISTER_0) != 0 ? 0x70 : 0)
                    | ((parts & PART_REGISTER_1) != 0 ? 0x0E : 0)
                    | ((parts & PART_FLAG) != 0 ? 0x01 : 0);
        }

        static int mirroredParts(int parts) {
            return parts & PART_FLAG
                    | ((parts & PART_REGISTER_0) != 0 ? PART_REGISTER_1 : 0)
                    | ((parts & PART_REGISTER_1) != 0 ? PART_REGISTER_0 : 0);
        }

        private static boolean isInstruction(int number) {
            return number >= 0 && number < INSTRUCTIONS;
        }

        private static boolean isState(int number) {
            return number >= 0 && number < STATES;
        }

        int mirrored(int instruction) {
            return isInstruction(instruction) ? mirrors[instruction] : instruction;
        }

        int step(int instruction, int state) {
            int at = instruction * STATES + state;
            return at >= 0 && at < next.length ? next[at] : state;
        }

        int through(Code code, int state) {
            int result = state;
            for (int i = 0; i < code.length(); i++) {
                result = step(code.get(i), result);
            }
            return result;
        }

        /** The instructions, as bits, that bring live parts as wanted from a state. */
        long bringing(int state, int wanted, int live) {
            if (!isState(state) || !isState(wanted)) {
                return 0;
            }
            long all = (1L << INSTRUCTIONS) - 1;
            if ((live & PART_REGISTER_0) != 0) {
                all &= toRegister0[state * WORDS + register(wanted, 0)];
            }
            if ((live & PART_REGISTER_1) != 0) {
                all &= toRegister1[state * WORDS + register(wanted, 1)];
            }
            if ((live & PART_FLAG) != 0) {
                all &= toFlag[state * 2 + (wanted & 1)];
            }
            return all;
        }

        boolean readsWhatWrites(int reader, int writer) {
            return isInstruction(reader) && isInstruction(writer)
                    && (readParts[reader] & writtenParts[writer]) != 0;
        }

        /** Whether an instruction writes none of the parts that live behind it. */
        boolean isIdle(int instruction, int live) {
            return !isInstruction(instruction) || (writtenParts[instruction] & live) == 0;
        }

        private int liveAhead(int instruction, int live) {
            if (!isInstruction(instruction) || (writtenParts[instruction] & live) == 0) {
                return live;
            }
            return live & ~writtenParts[instruction] | readParts[instruction];
        }

        /** What lives ahead of the instruction at an index, or at the end behind the last one. */
        int liveFrom(Code code, int index, int live) {
            int result = live;
            for (int i = code.length() - 1; i >= index; i--) {
                result = liveAhead(code.get(i), result);
            }
            return result;
        }

        // A dead one changes nothing of what lives ahead of it, so one way back finds them all.
        void removeDead(Code code, int live) {
            int living = live;
            for (int i = code.length() - 1; i >= 0; i--) {
                if (isIdle(code.get(i), living)) {
                    code.removeAt(i);
                } else {
                    living = liveAhead(code.get(i), living);
                }
            }
        }

        boolean areAlike(Code one, Code two, int parts) {
            int bits = bitsOf(parts);
            for (int state = 0; state < STATES; state++) {
                if (((through(one, state) ^ through(two, state)) & bits) != 0) {
                    return false;
                }
            }
            return true;
        }
    }

    /** What is wanted of each state, for the parts that live at the end. */
    private static final class Goal {
        private final int[] wanted = new int[STATES];
        private int liveParts;

        void wantEffect(Machine machine, Code code, int live) {
            for (int state = 0; state < STATES; state++) {
                wanted[state] = machine.through(code, state);
            }
            liveParts = live;
        }

        int liveParts() {
            return liveParts;
        }

        int wantedOf(int state) {
            return state >= 0 && state < STATES ? wanted[state] : NONE;
        }

        int changeRow(int state, int now) {
            int before = wantedOf(state);
            if (state >= 0 && state < STATES) {
                wanted[state] = now;
            }
            return before;
        }

        int openRows() {
            int count = 0;
            for (int state = 0; state < STATES; state++) {
                if (wanted[state] == NONE) {
                    count++;
                }
            }
            return count;
        }

        /** The lowest state from which the code goes wrong, or NONE. */
        int counterexample(Machine machine, Code code) {
            int bits = Machine.bitsOf(liveParts);
            for (int state = 0; state < STATES; state++) {
                int row = wanted[state];
                if (row != NONE && ((machine.through(code, state) ^ row) & bits) != 0) {
                    return state;
                }
            }
            return NONE;
        }

        int wrongBits(Machine machine, Code code) {
            int bits = Machine.bitsOf(liveParts);
            int count = 0;
            for (int state = 0; state < STATES; state++) {
                int row = wanted[state];
                if (row != NONE) {
                    count += Integer.bitCount((machine.through(code, state) ^ row) & bits);
                }
            }
            return count;
        }
    }

    /** What kinds and waits cost. */
    private static final class Prices {
        private final int[] byKind = new int[KIND_COUNT];
        private int waitCost;

        Prices() {
            Arrays.fill(byKind, 1);
        }

        int setPrice(int kind, int cost) {
            if (kind < 0 || kind >= KIND_COUNT) {
                return NONE;
            }
            int before = byKind[kind];
            byKind[kind] = cost;
            return before;
        }

        int setWaitCost(int cost) {
            int before = waitCost;
            waitCost = cost;
            return before;
        }

        private int priceOf(int instruction) {
            int kind = Machine.kindOf(instruction);
            return kind >= 0 && kind < KIND_COUNT ? byKind[kind] : 0;
        }

        int costOf(Machine machine, Code code) {
            int sum = 0;
            for (int i = 0; i < code.length(); i++) {
                sum += priceOf(code.get(i));
                if (i > 0 && machine.readsWhatWrites(code.get(i), code.get(i - 1))) {
                    sum += waitCost;
                }
            }
            return sum;
        }
    }

    /** The lots that a walk draws. */
    private static final class Lots {
        static final int MODULUS = 2147483647;
        private static final long FACTOR = 48271;
        private int z = 1;

        int current() {
            return z;
        }

        int restart(int from) {
            int before = z;
            z = from;
            return before;
        }

        int draw(int bound) {
            z = (int) (z * FACTOR % MODULUS);
            return bound > 0 ? z % bound : 0;
        }
    }

    /**
     * Tries all programs by length and order. All last instructions behind the same ones ahead
     * are tried at once, as bits of a long.
     */
    private static final class Search {
        private final Machine machine;
        private final Code ahead = new Code();
        // The row that refused last is asked first: most candidates fail there again.
        private int refusing;

        Search(Machine machine) {
            this.machine = machine;
        }

        /** Puts the least program of a goal into the result, if there is one. */
        boolean findLeast(Goal goal, int most, Code result) {
            if (isMetByNothing(goal)) {
                result.clear();
                return true;
            }
            for (int length = 1; length <= most; length++) {
                int count = countOf(length - 1);
                ahead.startCounting(length - 1);
                for (int i = 0; i < count; i++) {
                    long fitting = fittingLast(goal);
                    if (fitting != 0) {
                        result.copyFrom(ahead);
                        result.append(lowestOf(fitting));
                        return true;
                    }
                    ahead.countOn();
                }
            }
            return false;
        }

        /** Puts the cheapest program of a goal into the result; its cost, or NONE. */
        int findCheapest(Goal goal, int most, Prices prices, Code result) {
            if (isMetByNothing(goal)) {
                result.clear();
                return 0;
            }
            int lowest = NONE;
            for (int length = 1; length <= most; length++) {
                int count = countOf(length - 1);
                ahead.startCounting(length - 1);
                for (int i = 0; i < count; i++) {
                    long fitting = fittingLast(goal);
                    if (fitting != 0) {
                        lowest = takeCheaper(fitting, lowest, prices, result);
                    }
                    ahead.countOn();
                }
            }
            return lowest;
        }

        private boolean isMetByNothing(Goal goal) {
            ahead.clear();
            return goal.counterexample(machine, ahead) == NONE;
        }

        private static int countOf(int length) {
            int count = 1;
            for (int i = 0; i < length; i++) {
                count *= INSTRUCTIONS;
            }
            return count;
        }

        /** The instructions, as bits, behind the ones ahead with which these meet the goal. */
        private long fittingLast(Goal goal) {
            int start = refusing;
            long fitting = (1L << INSTRUCTIONS) - 1;
            for (int i = 0; i < STATES && fitting != 0; i++) {
                int state = (start + i) % STATES;
                int wanted = goal.wantedOf(state);
                if (wanted != NONE) {
                    fitting &= machine.bringing(
                            machine.through(ahead, state), wanted, goal.liveParts());
                    refusing = state;
                }
            }
            return fitting;
        }

        private static int lowestOf(long fitting) {
            for (int i = 0; i < INSTRUCTIONS; i++) {
                if ((fitting >> i & 1) != 0) {
                    return i;
                }
            }
            return 0;
        }

        /** The lowest cost with these last ones too; of like ones the earlier one stays. */
        private int takeCheaper(long fitting, int before, Prices prices, Code result) {
            int lowest = before;
            for (int i = 0; i < INSTRUCTIONS; i++) {
                if ((fitting >> i & 1) != 0) {
                    ahead.append(i);
                    int cost = prices.costOf(machine, ahead);
                    if (lowest == NONE || cost < lowest) {
                        lowest = cost;
                        result.copyFrom(ahead);
                    }
                    ahead.dropLast();
                }
            }
            return lowest;
        }
    }

    /** A left side that may become a right side where just kept parts live behind it. */
    private static final class Rule {
        private final Code left = new Code();
        private final Code right = new Code();
        private final Code mirroredLeft = new Code();
        private final Code mirroredRight = new Code();
        private int kept;
        private int mirroredKept;
        private int taken;

        void tell(Machine machine, Code leftSide, Code rightSide, int live) {
            left.copyFrom(leftSide);
            right.copyFrom(rightSide);
            mirroredLeft.copyMirrored(machine, leftSide);
            mirroredRight.copyMirrored(machine, rightSide);
            kept = live;
            mirroredKept = Machine.mirroredParts(live);
            taken = 0;
        }

        int timesTaken() {
            return taken;
        }

        boolean hasLeft(Code code) {
            return left.equalsCode(code);
        }

        boolean keepsItsParts(Machine machine) {
            return machine.areAlike(left, right, kept)
                    && machine.areAlike(mirroredLeft, mirroredRight, mirroredKept);
        }

        /** Takes the rule at a place, as told or else exchanged, if it holds there. */
        boolean takeAt(Machine machine, Code code, int place, int live) {
            if (holds(machine, code, place, left, live, kept)) {
                code.replace(place, left.length(), right);
                taken++;
                return true;
            }
            if (holds(machine, code, place, mirroredLeft, live, mirroredKept)) {
                code.replace(place, mirroredLeft.length(), mirroredRight);
                taken++;
                return true;
            }
            return false;
        }

        private static boolean holds(
                Machine machine, Code code, int place, Code side, int live, int keeping) {
            return code.holdsAt(place, side)
                    && (machine.liveFrom(code, place + side.length(), live) & ~keeping) == 0;
        }
    }

    /** Counts the effects of short programs that are unlike each other. */
    private static final class Effects {
        private static final int LONGS = STATES / 8;
        private static final int MOST_EFFECTS = 1 + INSTRUCTIONS + INSTRUCTIONS * INSTRUCTIONS;
        private static final int SLOTS = 4096;

        private final Machine machine;
        // Effect by effect, eight states in each long.
        private final long[] packed = new long[MOST_EFFECTS * LONGS];
        private final int[] slots = new int[SLOTS];
        private final int[] ahead = new int[STATES];
        private final boolean[] isNew = new boolean[INSTRUCTIONS];
        private int count;

        Effects(Machine machine) {
            this.machine = machine;
        }

        /** Puts how many effects there are up to the lengths 0, 1 and 2 into the counts. */
        void countInto(int[] counts) {
            if (counts.length != MOST_EFFECT_LENGTH + 1) {
                return;
            }
            for (int state = 0; state < STATES; state++) {
                ahead[state] = state;
            }
            addBehind(NONE);
            counts[0] = count;
            for (int i = 0; i < INSTRUCTIONS; i++) {
                isNew[i] = addBehind(i);
            }
            counts[1] = count;
            for (int i = 0; i < INSTRUCTIONS; i++) {
                // What begins with an effect that was there is like what begins with that one.
                if (isNew[i]) {
                    addAllBehind(i);
                }
            }
            counts[2] = count;
        }

        private void addAllBehind(int first) {
            for (int state = 0; state < STATES; state++) {
                ahead[state] = machine.step(first, state);
            }
            for (int i = 0; i < INSTRUCTIONS; i++) {
                addBehind(i);
            }
        }

        /** Adds the effect of an instruction, or of none, behind what is ahead, if it is new. */
        private boolean addBehind(int instruction) {
            if (count < 0 || count >= MOST_EFFECTS) {
                return false;
            }
            int slot = pack(instruction);
            for (int i = 0; i < SLOTS; i++) {
                int at = (slot + i) % SLOTS;
                if (slots[at] == 0) {
                    count++;
                    slots[at] = count;
                    return true;
                }
                if (isLikeNext(slots[at] - 1)) {
                    return false;
                }
            }
            return false;
        }

        /** Packs an effect behind the last one; a slot to look for it first. */
        private int pack(int instruction) {
            long mixed = 0;
            for (int i = 0; i < LONGS; i++) {
                long row = 0;
                for (int k = 0; k < 8; k++) {
                    row = row << 8 | machine.step(instruction, ahead[i * 8 + k]);
                }
                packed[count * LONGS + i] = row;
                mixed = (mixed ^ row) * 0x9E3779B97F4A7C15L;
            }
            return (int) (mixed >>> 52);
        }

        private boolean isLikeNext(int effect) {
            if (effect < 0 || effect >= count) {
                return false;
            }
            for (int i = 0; i < LONGS; i++) {
                if (packed[effect * LONGS + i] != packed[count * LONGS + i]) {
                    return false;
                }
            }
            return true;
        }
    }
}
