import java.util.Arrays;

/**
 * A processor on which every word carries a label. Rules say for each group of instructions what is
 * allowed and which labels come of it; a small kernel works that out, and a cache keeps what it found.
 */
public final class LabelledCore {
    public static final int NONE = -1;

    private static final int MOST_WORDS = 256;
    private static final int REGISTERS = 32;
    private static final int MEMORY_WORDS = 64;
    private static final int MEMORY_START = 4096;
    private static final int MEMORY_END = MEMORY_START + 4 * MEMORY_WORDS;
    private static final int MOST_WAITING = 64;
    private static final int MOST_GONE = 256;
    private static final int MOST_TIMES = 1000;
    private static final int MOST_ENTRIES = 64;
    private static final int FIRST_ENTRIES = 16;
    private static final int GROUPS = 9;
    private static final int HIGHEST_MASK = 15;
    private static final int KERNEL_LIMIT = 200;

    private static final int RUNNING = 0;
    private static final int HALTED = 1;
    private static final int REFUSED = 2;
    private static final int NO_INSTRUCTION = 3;
    private static final int NO_WORD = 4;
    private static final int NO_MEMORY = 5;

    /** RESULT, NEXT, LEFT and RIGHT of each group, from group 0 on. */
    private static final int[] FIRST_RULES = {
        7, 1, 0, 0,
        11, 1, 0, 0,
        7, 1, 3, 8,
        15, 1, 3, 8,
        0, 7, 0, 0,
        1, 1, 0, 0,
        1, 3, 0, 0,
        3, 1, 0, 0,
        9, 1, 0, 0
    };

    private final int[] program;
    private final Bank registers;
    private final Bank store;
    private final Line waiting;
    private final Line gone;
    private final Kernel kernel;
    private final KeyCache known;
    private final Key asked;
    private int words;
    private int outcome;
    private int pc;
    private int pcLabel;
    private int done;
    private int misses;
    private int longMisses;
    private int resultLabel;
    private int nextLabel;

    public LabelledCore() {
        program = new int[MOST_WORDS];
        registers = new Bank(REGISTERS);
        store = new Bank(MEMORY_WORDS);
        waiting = new Line(MOST_WAITING);
        gone = new Line(MOST_GONE);
        kernel = new Kernel();
        known = new KeyCache();
        asked = new Key();
        for (int group = 0; group < GROUPS; group++) {
            int at = 4 * group;
            kernel.learn(group, FIRST_RULES[at], FIRST_RULES[at + 1], FIRST_RULES[at + 2], FIRST_RULES[at + 3]);
        }
    }

    public int word(int w) {
        if (words >= MOST_WORDS) {
            return NONE;
        }
        program[words] = w;
        words++;
        return words;
    }

    public int clear() {
        int had = words;
        words = 0;
        startAnew();
        return had;
    }

    public void begin() {
        startAnew();
    }

    public void rule(int group, int result, int next, int left, int right) throws IllegalArgumentException {
        if (group < 0 || group >= GROUPS) {
            throw new IllegalArgumentException("group is not 0 to 8");
        }
        if (!isMask(result) || !isMask(next) || !isMask(left) || !isMask(right)) {
            throw new IllegalArgumentException("a mask is not 0 to 15");
        }
        kernel.learn(group, result, next, left, right);
        known.forget();
    }

    public int cache(int entries) throws IllegalArgumentException {
        if (entries < 1 || entries > MOST_ENTRIES) {
            throw new IllegalArgumentException("entries is not 1 to 64");
        }
        return known.resize(entries);
    }

    public void set(int register, int v, int label) throws IllegalArgumentException {
        if (register < 1 || register >= REGISTERS) {
            throw new IllegalArgumentException("register is not 1 to 31");
        }
        registers.put(register, v, label);
    }

    public void poke(int i, int v, int label) throws IllegalArgumentException {
        if (i < 0 || i >= MEMORY_WORDS) {
            throw new IllegalArgumentException("i is not 0 to 63");
        }
        store.put(i, v, label);
    }

    public int input(int v, int label) {
        if (waiting.isFull()) {
            return NONE;
        }
        waiting.append(v, label);
        return waiting.size();
    }

    public int run(int times) throws IllegalArgumentException {
        if (times < 0 || times > MOST_TIMES) {
            throw new IllegalArgumentException("times is not 0 to 1000");
        }
        int steps = 0;
        while (steps < times && step()) {
            steps++;
        }
        return steps;
    }

    public long register(int register) throws IllegalArgumentException {
        if (register < 0 || register >= REGISTERS) {
            throw new IllegalArgumentException("register is not 0 to 31");
        }
        return registers.pair(register);
    }

    public long memory(int i) throws IllegalArgumentException {
        if (i < 0 || i >= MEMORY_WORDS) {
            throw new IllegalArgumentException("i is not 0 to 63");
        }
        return store.pair(i);
    }

    public long output(int i) throws IndexOutOfBoundsException {
        if (i < 0 || i >= gone.size()) {
            throw new IndexOutOfBoundsException("no such value went out");
        }
        return gone.pair(i);
    }

    public int told(int what) throws IllegalArgumentException {
        switch (what) {
            case 0:
                return outcome;
            case 1:
                return pc;
            case 2:
                return pcLabel;
            case 3:
                return done;
            case 4:
                return misses;
            case 5:
                return known.size();
            case 6:
                return gone.size();
            case 7:
                return waiting.size();
            case 8:
                return longMisses;
            default:
                throw new IllegalArgumentException("what is not 0 to 8");
        }
    }

    private static boolean isMask(int mask) {
        return mask >= 0 && mask <= HIGHEST_MASK;
    }

    private void startAnew() {
        registers.forget();
        store.forget();
        waiting.forget();
        gone.forget();
        known.forget();
        outcome = RUNNING;
        pc = 0;
        pcLabel = 0;
        done = 0;
        misses = 0;
        longMisses = 0;
    }

    /** Answers whether an instruction was done. */
    private boolean step() {
        if (outcome != RUNNING) {
            return false;
        }
        int place = pc >>> 2;
        if ((pc & 3) != 0 || place >= words) {
            return end(NO_WORD);
        }
        int w = program[place];
        int group = Code.groupOf(w);
        if (group == Code.NOTHING) {
            return end(NO_INSTRUCTION);
        }
        if (group == Code.HALT) {
            return end(HALTED);
        }
        int address = addressOf(w, group);
        if (Code.usesMemory(group) && !liesInMemory(address, Code.isWhole(w))) {
            return end(NO_MEMORY);
        }
        if (mustWait(group)) {
            return false;
        }
        ask(w, group, address);
        if (!isAllowed()) {
            return end(REFUSED);
        }
        perform(w, group, address);
        done++;
        return true;
    }

    private boolean end(int how) {
        outcome = how;
        return false;
    }

    private int addressOf(int w, int group) {
        int offset = group == Code.LOAD ? Code.immediate(w) : Code.storeOffset(w);
        return registers.number(Code.fieldA(w)) + offset;
    }

    private static boolean liesInMemory(int address, boolean whole) {
        boolean inside = address >= MEMORY_START && address < MEMORY_END;
        return inside && (!whole || (address & 3) == 0);
    }

    private static int placeOf(int address) {
        return (address - MEMORY_START) >> 2;
    }

    private boolean mustWait(int group) {
        return group == Code.OUT && gone.isFull() || group == Code.IN && waiting.size() == 0;
    }

    private void ask(int w, int group, int address) {
        asked.group = group;
        asked.p = pcLabel;
        asked.x = Code.readsA(w) ? registers.label(Code.fieldA(w)) : 0;
        asked.y = Code.readsB(w) ? registers.label(Code.fieldB(w)) : 0;
        asked.m = 0;
        if (Code.usesMemory(group)) {
            asked.m = store.label(placeOf(address));
        } else if (group == Code.IN) {
            asked.m = waiting.firstLabel();
        }
    }

    /** The labels of what is allowed are left in resultLabel and nextLabel. */
    private boolean isAllowed() {
        int entry = known.find(asked);
        if (entry == NONE) {
            return isAllowedByKernel();
        }
        resultLabel = known.resultOf(entry);
        nextLabel = known.nextOf(entry);
        return true;
    }

    private boolean isAllowedByKernel() {
        misses++;
        int took = kernel.workOut(asked);
        if (took > KERNEL_LIMIT) {
            longMisses++;
        }
        if (!kernel.allows()) {
            return false;
        }
        resultLabel = kernel.result();
        nextLabel = kernel.next();
        known.install(asked, resultLabel, nextLabel);
        return true;
    }

    private void perform(int w, int group, int address) {
        int behind = pc + 4;
        int to = behind;
        switch (group) {
            case Code.WORK:
                keep(w, worked(w));
                break;
            case Code.LOAD:
                keep(w, loaded(w, address));
                break;
            case Code.STORE:
                store.put(placeOf(address), registers.number(Code.fieldB(w)), resultLabel);
                break;
            case Code.PATCH:
                store.put(placeOf(address), patched(w, address), resultLabel);
                break;
            case Code.BRANCH:
                to = branches(w) ? pc + Code.branchOffset(w) : behind;
                break;
            case Code.CALL:
                to = pc + Code.callOffset(w);
                keep(w, behind);
                break;
            case Code.LEAP:
                // before keep(), for D may be the register that says where to go
                to = (registers.number(Code.fieldA(w)) + Code.immediate(w)) & ~1;
                keep(w, behind);
                break;
            case Code.OUT:
                gone.append(registers.number(Code.fieldA(w)), resultLabel);
                break;
            default:
                keep(w, waiting.firstNumber());
                waiting.dropFirst();
                break;
        }
        pc = to;
        pcLabel = nextLabel;
    }

    private void keep(int w, int number) {
        int register = Code.fieldD(w);
        if (register != 0) {
            registers.put(register, number, resultLabel);
        }
    }

    private int worked(int w) {
        int code = Code.codeOf(w);
        if (code == Code.UPPER) {
            return Code.upperPart(w);
        }
        if (code == Code.UPPER_FROM_PC) {
            return Code.upperPart(w) + pc;
        }
        int a = registers.number(Code.fieldA(w));
        if (code == Code.WITH_REGISTER) {
            return Code.combine(Code.fieldF(w), Code.fieldG(w) != 0, a, registers.number(Code.fieldB(w)));
        }
        // a shift takes the lowest five bits of I, which are B; G is a part of I for all others
        boolean other = Code.fieldF(w) == 5 && Code.fieldG(w) != 0;
        return Code.combine(Code.fieldF(w), other, a, Code.immediate(w));
    }

    private int loaded(int w, int address) {
        int number = store.number(placeOf(address));
        if (Code.isWhole(w)) {
            return number;
        }
        int lowByte = (number >>> shiftOf(address)) & 255;
        return Code.fieldF(w) == 0 ? (byte) lowByte : lowByte;
    }

    private int patched(int w, int address) {
        int shift = shiftOf(address);
        int others = store.number(placeOf(address)) & ~(255 << shift);
        return others | (registers.number(Code.fieldB(w)) & 255) << shift;
    }

    private static int shiftOf(int address) {
        return (address & 3) * 8;
    }

    private boolean branches(int w) {
        return Code.compares(Code.fieldF(w), registers.number(Code.fieldA(w)), registers.number(Code.fieldB(w)));
    }

    private static long pairOf(int number, int label) {
        return ((long) label << 32) | (number & 0xFFFFFFFFL);
    }

    /** What the bits of an instruction say. */
    private static final class Code {
        static final int WORK = 0;
        static final int LOAD = 1;
        static final int STORE = 2;
        static final int PATCH = 3;
        static final int BRANCH = 4;
        static final int CALL = 5;
        static final int LEAP = 6;
        static final int OUT = 7;
        static final int IN = 8;
        static final int HALT = 9;
        static final int NOTHING = 10;

        static final int WITH_REGISTER = 51;
        static final int WITH_NUMBER = 19;
        static final int UPPER = 55;
        static final int UPPER_FROM_PC = 23;
        static final int LOADING = 3;
        static final int STORING = 35;
        static final int BRANCHING = 99;
        static final int CALLING = 111;
        static final int LEAPING = 103;
        static final int OUTSIDE = 11;

        private static final int SIGN = 0x80000000;

        static int codeOf(int w) {
            return w & 127;
        }

        static int fieldD(int w) {
            return (w >>> 7) & 31;
        }

        static int fieldF(int w) {
            return (w >>> 12) & 7;
        }

        static int fieldA(int w) {
            return (w >>> 15) & 31;
        }

        static int fieldB(int w) {
            return (w >>> 20) & 31;
        }

        static int fieldG(int w) {
            return w >>> 25;
        }

        static int immediate(int w) {
            return w >> 20;
        }

        static int upperPart(int w) {
            return w & ~4095;
        }

        static int storeOffset(int w) {
            return (w >> 25) << 5 | fieldD(w);
        }

        static int branchOffset(int w) {
            return (w >> 31) << 12 | ((w >>> 7) & 1) << 11 | ((w >>> 25) & 63) << 5 | ((w >>> 8) & 15) << 1;
        }

        static int callOffset(int w) {
            return (w >> 31) << 20 | ((w >>> 12) & 255) << 12 | ((w >>> 20) & 1) << 11 | ((w >>> 21) & 1023) << 1;
        }

        static int groupOf(int w) {
            int f = fieldF(w);
            switch (codeOf(w)) {
                case WITH_REGISTER:
                    return isRegisterWork(f, fieldG(w)) ? WORK : NOTHING;
                case WITH_NUMBER:
                    return isNumberWork(f, fieldG(w)) ? WORK : NOTHING;
                case UPPER:
                case UPPER_FROM_PC:
                    return WORK;
                case LOADING:
                    return f == 0 || f == 2 || f == 4 ? LOAD : NOTHING;
                case STORING:
                    return f == 2 ? STORE : f == 0 ? PATCH : NOTHING;
                case BRANCHING:
                    return f != 2 && f != 3 ? BRANCH : NOTHING;
                case CALLING:
                    return CALL;
                case LEAPING:
                    return f == 0 ? LEAP : NOTHING;
                case OUTSIDE:
                    return f == 0 ? OUT : f == 1 ? IN : f == 2 ? HALT : NOTHING;
                default:
                    return NOTHING;
            }
        }

        private static boolean isRegisterWork(int f, int g) {
            return g == 0 || g == 32 && (f == 0 || f == 5);
        }

        private static boolean isNumberWork(int f, int g) {
            if (f == 1) {
                return g == 0;
            }
            return f != 5 || g == 0 || g == 32;
        }

        static boolean usesMemory(int group) {
            return group == LOAD || group == STORE || group == PATCH;
        }

        static boolean isWhole(int w) {
            return fieldF(w) == 2;
        }

        static boolean readsA(int w) {
            switch (codeOf(w)) {
                case WITH_REGISTER:
                case WITH_NUMBER:
                case LOADING:
                case STORING:
                case BRANCHING:
                case LEAPING:
                    return true;
                case OUTSIDE:
                    return fieldF(w) == 0;
                default:
                    return false;
            }
        }

        static boolean readsB(int w) {
            int code = codeOf(w);
            return code == WITH_REGISTER || code == STORING || code == BRANCHING;
        }

        /** With other set, sub stands for add and sra for srl. */
        static int combine(int f, boolean other, int a, int b) {
            switch (f) {
                case 0:
                    return other ? a - b : a + b;
                case 1:
                    return a << (b & 31);
                case 2:
                    return a < b ? 1 : 0;
                case 3:
                    return isLessUnsigned(a, b) ? 1 : 0;
                case 4:
                    return a ^ b;
                case 5:
                    return other ? a >> (b & 31) : a >>> (b & 31);
                case 6:
                    return a | b;
                default:
                    return a & b;
            }
        }

        static boolean compares(int f, int a, int b) {
            switch (f) {
                case 0:
                    return a == b;
                case 1:
                    return a != b;
                case 4:
                    return a < b;
                case 5:
                    return a >= b;
                case 6:
                    return isLessUnsigned(a, b);
                default:
                    return !isLessUnsigned(a, b);
            }
        }

        private static boolean isLessUnsigned(int a, int b) {
            return (a ^ SIGN) < (b ^ SIGN);
        }
    }

    /** Numbers with their labels, at fixed places; its users keep to the places that it has. */
    private static final class Bank {
        private final int[] numbers;
        private final int[] labels;

        Bank(int places) {
            numbers = new int[places];
            labels = new int[places];
        }

        void forget() {
            Arrays.fill(numbers, 0);
            Arrays.fill(labels, 0);
        }

        void put(int i, int number, int label) {
            numbers[i] = number;
            labels[i] = label;
        }

        int number(int i) {
            return numbers[i];
        }

        int label(int i) {
            return labels[i];
        }

        long pair(int i) {
            return pairOf(numbers[i], labels[i]);
        }
    }

    /** Numbers with their labels, one behind the other: a ring, so that taking the first one moves none. */
    private static final class Line {
        private final Bank held;
        private final int room;
        private int first;
        private int count;

        Line(int room) {
            this.held = new Bank(room);
            this.room = room;
        }

        void forget() {
            first = 0;
            count = 0;
        }

        int size() {
            return count;
        }

        boolean isFull() {
            return count >= room;
        }

        void append(int number, int label) {
            if (count < room) {
                held.put(placeOfNth(count), number, label);
                count++;
            }
        }

        void dropFirst() {
            if (count > 0) {
                first = placeOfNth(1);
                count--;
            }
        }

        int firstNumber() {
            return held.number(first);
        }

        int firstLabel() {
            return held.label(first);
        }

        long pair(int i) {
            return held.pair(placeOfNth(i));
        }

        private int placeOfNth(int i) {
            int place = first + i;
            return place >= room ? place - room : place;
        }
    }

    /** What the rules are asked for: a group and the four labels of an instruction. */
    private static final class Key {
        int group;
        int p;
        int x;
        int y;
        int m;
    }

    /** The last keys that were installed, with the labels that came of them: a ring of as many as it has entries. */
    private static final class KeyCache {
        private final int[] groups;
        private final int[] ps;
        private final int[] xs;
        private final int[] ys;
        private final int[] ms;
        private final int[] results;
        private final int[] nexts;
        private int entries;
        private int count;
        private int oldest;

        KeyCache() {
            groups = new int[MOST_ENTRIES];
            ps = new int[MOST_ENTRIES];
            xs = new int[MOST_ENTRIES];
            ys = new int[MOST_ENTRIES];
            ms = new int[MOST_ENTRIES];
            results = new int[MOST_ENTRIES];
            nexts = new int[MOST_ENTRIES];
            entries = FIRST_ENTRIES;
        }

        void forget() {
            count = 0;
            oldest = 0;
        }

        int resize(int size) {
            int had = entries;
            entries = size;
            forget();
            return had;
        }

        int size() {
            return count;
        }

        int find(Key key) {
            for (int i = 0; i < count; i++) {
                if (groups[i] == key.group && ps[i] == key.p && xs[i] == key.x && ys[i] == key.y && ms[i] == key.m) {
                    return i;
                }
            }
            return NONE;
        }

        void install(Key key, int result, int next) {
            int at = takePlace();
            groups[at] = key.group;
            ps[at] = key.p;
            xs[at] = key.x;
            ys[at] = key.y;
            ms[at] = key.m;
            results[at] = result;
            nexts[at] = next;
        }

        /** While there is room the places fill up from 0 on; then the oldest key gives way. */
        private int takePlace() {
            if (count < entries) {
                count++;
                return count - 1;
            }
            int at = oldest;
            oldest = at + 1 >= entries ? 0 : at + 1;
            return at;
        }

        int resultOf(int entry) {
            return results[entry];
        }

        int nextOf(int entry) {
            return nexts[entry];
        }
    }

    /**
     * The kernel: a machine with eight slots and straight code for each group, made of the group's rule.
     * Code without jumps ends within its room, so that no miss can be a long one.
     */
    private static final class Kernel {
        private static final int RESULT = 4;
        private static final int NEXT = 5;
        private static final int LEFT = 6;
        private static final int RIGHT = 7;
        private static final int SLOTS = 8;
        private static final int LABELS = 4;

        private static final int STOP = 0;
        private static final int JOIN = 1;
        private static final int STRIP = 2;

        /** Four masks of four labels, a STRIP and a STOP. */
        private static final int ROOM = 18;

        private final int[] code;
        private final int[] slots;

        Kernel() {
            code = new int[GROUPS * ROOM];
            slots = new int[SLOTS];
        }

        void learn(int group, int result, int next, int left, int right) {
            int at = group * ROOM;
            at = writeJoins(at, RESULT, result);
            at = writeJoins(at, NEXT, next);
            at = writeJoins(at, LEFT, left);
            at = writeJoins(at, RIGHT, right);
            code[at] = instruction(STRIP, LEFT, RIGHT);
            code[at + 1] = instruction(STOP, 0, 0);
        }

        private int writeJoins(int start, int target, int mask) {
            int at = start;
            for (int label = 0; label < LABELS; label++) {
                if ((mask >> label & 1) != 0) {
                    code[at] = instruction(JOIN, target, label);
                    at++;
                }
            }
            return at;
        }

        private static int instruction(int kind, int target, int source) {
            return kind << 6 | target << 3 | source;
        }

        /** Answers how many instructions it took. */
        int workOut(Key key) {
            takeIn(key);
            int start = key.group * ROOM;
            int took = 0;
            boolean going = true;
            while (going && took < ROOM) {
                going = execute(code[start + took]);
                took++;
            }
            return took;
        }

        private void takeIn(Key key) {
            slots[0] = key.p;
            slots[1] = key.x;
            slots[2] = key.y;
            slots[3] = key.m;
            Arrays.fill(slots, LABELS, SLOTS, 0);
        }

        private boolean execute(int instruction) {
            int target = instruction >> 3 & 7;
            int source = instruction & 7;
            switch (instruction >> 6) {
                case JOIN:
                    slots[target] |= slots[source];
                    return true;
                case STRIP:
                    slots[target] &= ~slots[source];
                    return true;
                default:
                    return false;
            }
        }

        /** What the STRIP leaves of LEFT are the bits that RIGHT has not. */
        boolean allows() {
            return slots[LEFT] == 0;
        }

        int result() {
            return slots[RESULT];
        }

        int next() {
            return slots[NEXT];
        }
    }
}
