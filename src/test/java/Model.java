import java.util.ArrayDeque;
import java.util.ArrayList;
import java.util.List;

/**
 * The document's machine once more, written for the tests in another way: sets of bits by formula from
 * the rules at every step, the cache as a list of keys alone, memory as bytes.
 */
final class Model {
    private static final int[][] FIRST = {
        {7, 1, 0, 0}, {11, 1, 0, 0}, {7, 1, 3, 8}, {15, 1, 3, 8}, {0, 7, 0, 0}, {1, 1, 0, 0}, {1, 3, 0, 0},
        {3, 1, 0, 0}, {9, 1, 0, 0}
    };

    final List<Integer> program = new ArrayList<>();
    final int[][] rules = new int[9][];
    final long[] registers = new long[32];
    final int[] registerLabels = new int[32];
    final int[] bytes = new int[256];
    final int[] wordLabels = new int[64];
    final ArrayDeque<long[]> waiting = new ArrayDeque<>();
    final List<Long> gone = new ArrayList<>();
    final List<List<Integer>> keys = new ArrayList<>();
    int entries = 16;
    int outcome;
    long pc;
    int pcLabel;
    int done;
    int misses;

    Model() {
        for (int i = 0; i < 9; i++) {
            rules[i] = FIRST[i].clone();
        }
    }

    void begin() {
        java.util.Arrays.fill(registers, 0);
        java.util.Arrays.fill(registerLabels, 0);
        java.util.Arrays.fill(bytes, 0);
        java.util.Arrays.fill(wordLabels, 0);
        waiting.clear();
        gone.clear();
        keys.clear();
        outcome = 0;
        pc = 0;
        pcLabel = 0;
        done = 0;
        misses = 0;
    }

    int word(int w) {
        if (program.size() == 256) {
            return -1;
        }
        program.add(w);
        return program.size();
    }

    int clear() {
        int had = program.size();
        program.clear();
        begin();
        return had;
    }

    void rule(int group, int result, int next, int left, int right) {
        rules[group] = new int[] {result, next, left, right};
        keys.clear();
    }

    int cache(int size) {
        int had = entries;
        entries = size;
        keys.clear();
        return had;
    }

    void set(int i, int v, int label) {
        registers[i] = v & 0xFFFFFFFFL;
        registerLabels[i] = label;
    }

    void poke(int i, int v, int label) {
        for (int k = 0; k < 4; k++) {
            bytes[4 * i + k] = v >>> 8 * k & 255;
        }
        wordLabels[i] = label;
    }

    int input(int v, int label) {
        if (waiting.size() == 64) {
            return -1;
        }
        waiting.add(new long[] {v & 0xFFFFFFFFL, label});
        return waiting.size();
    }

    int run(int times) {
        int count = 0;
        while (count < times && step()) {
            count++;
        }
        return count;
    }

    long register(int i) {
        return Check.pair((int) registers[i], registerLabels[i]);
    }

    long memory(int i) {
        return Check.pair((int) wordAt(4 * i), wordLabels[i]);
    }

    int told(int what) {
        return new int[] {outcome, (int) pc, pcLabel, done, misses, keys.size(), gone.size(), waiting.size(), 0}[what];
    }

    private long wordAt(int at) {
        return bytes[at] + 256L * bytes[at + 1] + 65536L * bytes[at + 2] + 16777216L * bytes[at + 3];
    }

    private static int bits(int w, int from, int to) {
        return (int) ((w & 0xFFFFFFFFL) >> from) & (int) ((1L << to - from + 1) - 1);
    }

    private static long signed(long bits, int width) {
        return bits >= 1L << width - 1 ? bits - (1L << width) : bits;
    }

    private static long wrap(long n) {
        return n & 0xFFFFFFFFL;
    }

    private static String nameOf(int w) {
        int f = bits(w, 12, 14);
        int g = bits(w, 25, 31);
        String[] plain = {"add", "sll", "slt", "sltu", "xor", "srl", "or", "and"};
        switch (bits(w, 0, 6)) {
            case 51:
                return g == 0 ? plain[f] : g == 32 && f == 0 ? "sub" : g == 32 && f == 5 ? "sra" : "";
            case 19:
                if (f == 1 || f == 5) {
                    return g == 0 ? plain[f] : g == 32 && f == 5 ? "sra" : "";
                }
                return plain[f];
            case 55:
                return "upper";
            case 23:
                return "upperpc";
            case 3:
                return new String[] {"loadbyte", "", "loadword", "", "loadplain", "", "", ""}[f];
            case 35:
                return new String[] {"patch", "", "store", "", "", "", "", ""}[f];
            case 99:
                return new String[] {"eq", "ne", "", "", "lt", "ge", "ltu", "geu"}[f];
            case 111:
                return "call";
            case 103:
                return f == 0 ? "leap" : "";
            case 11:
                return f < 3 ? new String[] {"out", "in", "halt"}[f] : "";
            default:
                return "";
        }
    }

    private boolean step() {
        if (outcome != 0) {
            return false;
        }
        if (pc % 4 != 0 || pc / 4 >= program.size()) {
            outcome = 4;
            return false;
        }
        int w = program.get((int) (pc / 4));
        String name = nameOf(w);
        if (name.isEmpty() || name.equals("halt")) {
            outcome = name.isEmpty() ? 3 : 1;
            return false;
        }
        int code = bits(w, 0, 6);
        long i = signed(bits(w, 20, 31), 12);
        long s = signed(bits(w, 25, 31) * 32 + bits(w, 7, 11), 12);
        long a = registers[bits(w, 15, 19)];
        long b = registers[bits(w, 20, 24)];
        boolean inMemory = code == 3 || code == 35;
        long at = wrap(a + (code == 3 ? i : s)) - 4096;
        if (inMemory && (at < 0 || at > 255 || bits(w, 12, 14) == 2 && at % 4 != 0)) {
            outcome = 5;
            return false;
        }
        if (name.equals("out") && gone.size() == 256 || name.equals("in") && waiting.isEmpty()) {
            return false;
        }
        int group = groupOf(code, name);
        int x = code == 55 || code == 23 || code == 111 || name.equals("in") ? 0 : registerLabels[bits(w, 15, 19)];
        int y = code == 51 || code == 35 || code == 99 ? registerLabels[bits(w, 20, 24)] : 0;
        int m = inMemory ? wordLabels[(int) at / 4] : name.equals("in") ? (int) waiting.peek()[1] : 0;
        int[] labels = {pcLabel, x, y, m};
        List<Integer> key = List.of(group, pcLabel, x, y, m);
        boolean miss = !keys.contains(key);
        misses += miss ? 1 : 0;
        if ((join(rules[group][2], labels) | join(rules[group][3], labels)) != join(rules[group][3], labels)) {
            outcome = 2;
            return false;
        }
        if (miss) {
            keys.add(key);
            if (keys.size() > entries) {
                keys.remove(0);
            }
        }
        act(w, name, a, b, (int) at, join(rules[group][0], labels));
        pcLabel = join(rules[group][1], labels);
        done++;
        return true;
    }

    private static int groupOf(int code, String name) {
        switch (code) {
            case 3:
                return 1;
            case 35:
                return name.equals("store") ? 2 : 3;
            case 99:
                return 4;
            case 111:
                return 5;
            case 103:
                return 6;
            case 11:
                return name.equals("out") ? 7 : 8;
            default:
                return 0;
        }
    }

    private static int join(int mask, int[] labels) {
        int all = 0;
        for (int k = 0; k < 4; k++) {
            all |= (mask & 1 << k) != 0 ? labels[k] : 0;
        }
        return all;
    }

    private void into(int w, long number, int label) {
        int d = bits(w, 7, 11);
        if (d > 0) {
            registers[d] = wrap(number);
            registerLabels[d] = label;
        }
    }

    private void act(int w, String name, long a, long b, int at, int label) {
        long i = signed(bits(w, 20, 31), 12);
        long to = pc + 4;
        long upper = wrap(w) / 4096 * 4096;
        long sa = signed(a, 32);
        long sb = signed(b, 32);
        switch (name) {
            case "upper":
                into(w, upper, label);
                break;
            case "upperpc":
                into(w, upper + pc, label);
                break;
            case "loadword":
                into(w, wordAt(at), label);
                break;
            case "loadbyte":
                into(w, signed(bytes[at], 8), label);
                break;
            case "loadplain":
                into(w, bytes[at], label);
                break;
            case "store":
                poke(at / 4, (int) b, label);
                break;
            case "patch":
                bytes[at] = (int) (b % 256);
                wordLabels[at / 4] = label;
                break;
            case "call":
                long far = bits(w, 31, 31) << 20 | bits(w, 12, 19) << 12 | bits(w, 20, 20) << 11 | bits(w, 21, 30) << 1;
                into(w, to, label);
                to = pc + signed(far, 21);
                break;
            case "leap":
                into(w, to, label);
                to = wrap(a + i) / 2 * 2;
                break;
            case "out":
                gone.add(Check.pair((int) a, label));
                break;
            case "in":
                into(w, waiting.poll()[0], label);
                break;
            default:
                if (bits(w, 0, 6) == 99) {
                    boolean holds = name.equals("eq") && a == b || name.equals("ne") && a != b
                        || name.equals("lt") && sa < sb || name.equals("ge") && sa >= sb
                        || name.equals("ltu") && a < b || name.equals("geu") && a >= b;
                    long near = bits(w, 31, 31) << 12 | bits(w, 7, 7) << 11 | bits(w, 25, 30) << 5 | bits(w, 8, 11) << 1;
                    to = holds ? pc + signed(near, 13) : to;
                } else {
                    into(w, work(name, a, bits(w, 0, 6) == 51 ? b : wrap(i)), label);
                }
        }
        pc = wrap(to);
    }

    private static long work(String name, long a, long b) {
        int by = (int) (b % 32);
        switch (name) {
            case "add":
                return a + b;
            case "sub":
                return a - b;
            case "sll":
                return a << by;
            case "slt":
                return signed(a, 32) < signed(b, 32) ? 1 : 0;
            case "sltu":
                return a < b ? 1 : 0;
            case "xor":
                return a ^ b;
            case "srl":
                return a >> by;
            case "sra":
                return signed(a, 32) >> by;
            case "or":
                return a | b;
            default:
                return a & b;
        }
    }
}
