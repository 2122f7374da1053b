import java.util.Arrays;

/** The promises 1 to 14 with ordinary inputs; PromiseBoundaryTest has their edges and wrong inputs. */
public final class PromiseTest {
    private static final int[] FIRST_RULES = {
        7, 1, 0, 0, 11, 1, 0, 0, 7, 1, 3, 8, 15, 1, 3, 8, 0, 7, 0, 0, 1, 1, 0, 0, 1, 3, 0, 0, 3, 1, 0, 0, 9, 1, 0, 0
    };

    public static void main(String[] args) {
        words();
        promise1();
        promise2();
        promise2WhileRunning();
        promise3();
        promise4();
        promise5();
        promise6();
        promise7();
        promise8();
        promise9();
        promise10();
        promise11();
        promise12();
        promise13();
        promise14();
        Check.end();
    }

    /** The words that the shared test writes as numbers, so that Asm itself is held to them. */
    private static void words() {
        Check.due("in", 4235, Asm.in(1));
        Check.due("add", 2130355, Asm.add(3, 1, 2));
        Check.due("out", 98315, Asm.out(3));
        Check.due("halt", 8203, Asm.halt());
        Check.due("branch", -31416605, Asm.branch(1, 1, 2, -4));
        Check.due("call", -10489105, Asm.call(5, -12));
        Check.due("store", 240160547, Asm.store(0, 5, 1, 254));
        Check.due("upper", 4279, Asm.upper(1, 1));
        Check.due("upper from the PC", 4375, Asm.upperFromPc(2, 1));
    }

    /** Leaves something behind in all that begin() resets. */
    private static LabelledCore used() {
        LabelledCore core = Asm.core(Asm.in(1), Asm.out(1), Asm.branch(0, 1, 1, 4), Asm.halt());
        core.rule(4, 0, 7, 0, 0);
        core.input(5, 6);
        core.input(7, 8);
        for (int i = 1; i < 32; i++) {
            core.set(i, i, -i);
        }
        for (int i = 0; i < 64; i++) {
            core.poke(i, i + 1, i + 2);
        }
        Check.due("used: run", 3, core.run(5));
        Check.due("used: outcome", 1, core.told(0));
        Check.due("used: pc", 12, core.told(1));
        Check.due("used: label of the pc", 6, core.told(2));
        Check.due("used: done", 3, core.told(3));
        Check.due("used: misses", 3, core.told(4));
        Check.due("used: known", 3, core.told(5));
        Check.due("used: gone", 1, core.told(6));
        Check.due("used: waiting", 1, core.told(7));
        return core;
    }

    private static void promise1() {
        LabelledCore core = new LabelledCore();
        Seen.dueAnew("a new object", core);
        Check.due("entries at first", 16, core.cache(16));
        Check.due("no program", 0, core.clear());
        firstRules();
    }

    static int[] firstRule(int group) {
        return Arrays.copyOfRange(FIRST_RULES, 4 * group, 4 * group + 4);
    }

    /** Each group's first rule, seen by the labels P 1, X 2, Y 4 and M 8, or 11 where P and X must be within it. */
    static void firstRules() {
        int[] samples = {
            Asm.add(5, 1, 2), Asm.load(2, 5, 1, 0), Asm.store(2, 2, 1, 0), Asm.store(0, 2, 1, 0),
            Asm.branch(0, 1, 2, 8), Asm.call(5, 8), Asm.leap(5, 1, 0), Asm.out(1), Asm.in(5)
        };
        for (int group = 0; group <= 8; group++) {
            int m = group == 2 || group == 3 ? 11 : 8;
            LabelledCore core = coreWithLabels(samples[group], 1, 2, 4, m);
            Check.due("first rule, group " + group + " runs", 1, core.run(1));
            int result = RuleTest.joined(FIRST_RULES[4 * group], group, m);
            int next = RuleTest.joined(FIRST_RULES[4 * group + 1], group, m);
            Check.due("first rule, RESULT of group " + group, result, resultOf(core, group));
            Check.due("first rule, NEXT of group " + group, next, core.told(2));
        }
        for (int group = 2; group <= 3; group++) {
            Check.due("P not within M", 0, coreWithLabels(samples[group], 1, 2, 4, 2).run(1));
            Check.due("X not within M", 0, coreWithLabels(samples[group], 1, 2, 4, 1).run(1));
            Check.due("P and X within M", 1, coreWithLabels(samples[group], 1, 2, 4, 3).run(1));
        }
    }

    /**
     * The instruction stands behind a branch that gives the PC its label, and goes through register 1
     * (number 4096, label x), register 2 (label y), memory's word 0 and a value that waits (label m).
     */
    static LabelledCore coreWithLabels(int w, int p, int x, int y, int m) {
        LabelledCore core = Asm.core(Asm.branch(0, 3, 3, 4), w);
        core.set(3, 0, p);
        Check.due("the branch before", 1, core.run(1));
        core.set(1, 4096, x);
        core.set(2, 9, y);
        core.poke(0, 77, m);
        core.input(78, m);
        return core;
    }

    private static int resultOf(LabelledCore core, int group) {
        switch (group) {
            case 2:
            case 3:
                return (int) (core.memory(0) >> 32);
            case 4:
                return 0;
            case 7:
                return (int) (core.output(0) >> 32);
            default:
                return (int) (core.register(5) >> 32);
        }
    }

    private static void promise2() {
        LabelledCore core = new LabelledCore();
        Check.due("a first word", 1, core.word(Asm.addI(1, 0, 3)));
        Check.due("a word behind it", 2, core.word(Asm.addI(1, 1, 4)));
        Check.due("and another", 3, core.word(Asm.halt()));
        Check.due("they run in their order", 2, core.run(9));
        Check.due("to the last one", 8, core.told(1));
        Check.due("register", 7, core.register(1));
        Check.due("three words", 3, core.clear());
    }

    private static void promise2WhileRunning() {
        LabelledCore core = Asm.core(Asm.addI(1, 0, 3));
        Check.due("one word", 1, core.run(1));
        Check.due("a word behind it", 2, core.word(Asm.addI(1, 1, 4)));
        Check.due("goes on with it", 1, core.run(9));
        Check.due("register", 7, core.register(1));
        Check.due("no word", 4, core.told(0));
        Check.due("a word too late", 3, core.word(Asm.halt()));
        Check.due("does not run", 0, core.run(9));
        Check.due("the outcome stays", 4, core.told(0));
    }

    private static void promise3() {
        LabelledCore core = used();
        Check.due("clear()", 4, core.clear());
        Seen.dueAnew("behind clear()", core);
        Check.due("clear() again", 0, core.clear());
        Check.due("no word runs", 0, core.run(1));
        Check.due("no word is there", 4, core.told(0));

        LabelledCore kept = Asm.core(Asm.halt());
        kept.cache(3);
        kept.rule(7, 0, 0, 0, 0);
        kept.clear();
        Check.due("clear() leaves the entries", 3, kept.cache(3));
        kept.word(Asm.out(1));
        kept.set(1, 5, 6);
        kept.run(1);
        Check.due("clear() leaves the rules", 5, kept.output(0));
    }

    private static void promise4() {
        LabelledCore core = used();
        core.begin();
        Seen.dueAnew("behind begin()", core);
        core.input(-1, -2);
        Check.due("the program is still there", 3, core.run(9));
        Check.due("and its output", Check.pair(-1, -2), core.output(0));
        Check.due("keys were not known", 3, core.told(4));

        LabelledCore kept = Asm.core(Asm.out(1));
        kept.cache(64);
        kept.rule(7, 0, 0, 0, 0);
        kept.begin();
        Check.due("begin() leaves the entries", 64, kept.cache(64));
        kept.set(1, 5, 6);
        kept.run(1);
        Check.due("begin() leaves the rules", 5, kept.output(0));
        Check.due("begin() leaves the program", 1, kept.clear());
    }

    private static void promise5() {
        LabelledCore core = Asm.core(Asm.out(1), Asm.call(0, -4));
        core.set(1, 8, 4);
        Check.due("loop", 10, core.run(10));
        Check.due("two misses", 2, core.told(4));
        Check.due("two keys", 2, core.told(5));
        core.rule(0, 15, 15, 0, 15);
        Check.due("no key is known", 0, core.told(5));
        Check.due("the misses stay", 2, core.told(4));
        core.run(10);
        Check.due("both miss again", 4, core.told(4));
        core.rule(7, 0, 2, 0, 0);
        core.run(1);
        Check.due("RESULT is nothing now", 8, core.output(10));
        Check.due("NEXT is X now", 4, core.told(2));
        core.rule(7, 0, 2, 2, 0);
        core.run(1);
        Check.due("the CALL before it", 0, core.told(0));
        Check.due("X is not within nothing", 0, core.run(1));
        Check.due("so it is not allowed", 2, core.told(0));
        core.rule(7, 0, 0, 0, 0);
        Check.due("a rule does not wake the machine", 0, core.run(1));
        Check.due("the outcome stays", 2, core.told(0));
    }

    private static void promise6() {
        LabelledCore core = Asm.core(Asm.out(1), Asm.call(0, -4));
        core.run(4);
        Check.due("known", 2, core.told(5));
        Check.due("16 at first", 16, core.cache(64));
        Check.due("no key is known", 0, core.told(5));
        Check.due("64 then", 64, core.cache(1));
        core.run(4);
        Check.due("one entry", 1, core.told(5));
        Check.due("six misses", 6, core.told(4));
        Check.due("1 then", 1, core.cache(1));
        Check.due("as many again, no key is known", 0, core.told(5));
        Check.due("the misses stay", 6, core.told(4));
    }

    private static void promise7() {
        LabelledCore core = new LabelledCore();
        for (int i = 1; i <= 31; i++) {
            core.set(i, 1000 + i, 2000 + i);
        }
        Check.due("register 0 stays", 0, core.register(0));
        for (int i = 1; i <= 31; i++) {
            Check.due("register " + i, Check.pair(1000 + i, 2000 + i), core.register(i));
        }
        core.set(31, -1, -2);
        Check.due("again", Check.pair(-1, -2), core.register(31));
        core.run(1);
        core.set(1, 3, 4);
        Check.due("with an outcome too", Check.pair(3, 4), core.register(1));
        Check.due("which stays", 4, core.told(0));
    }

    private static void promise8() {
        LabelledCore core = new LabelledCore();
        for (int i = 0; i < 64; i++) {
            core.poke(i, 3000 + i, -4000 - i);
        }
        for (int i = 0; i < 64; i++) {
            Check.due("word " + i, Check.pair(3000 + i, -4000 - i), core.memory(i));
        }
        core.poke(0, Integer.MIN_VALUE, Integer.MAX_VALUE);
        Check.due("again", Check.pair(Integer.MIN_VALUE, Integer.MAX_VALUE), core.memory(0));
    }

    private static void promise9() {
        LabelledCore core = Asm.core(Asm.in(1), Asm.out(1), Asm.call(0, -8));
        for (int i = 1; i <= 3; i++) {
            Check.due("input " + i, i, core.input(i, -i));
        }
        Check.due("one is taken", 1, core.run(1));
        Check.due("one comes behind", 3, core.input(100, 200));
        Check.due("all are taken", 3 * 4 - 1, core.run(1000));
        for (int i = 1; i <= 3; i++) {
            Check.due("first in, first out " + i, Check.pair(i, -i), core.output(i - 1));
        }
        Check.due("the one that came behind", Check.pair(100, 200), core.output(3));
        Check.due("none waits", 0, core.told(7));
        Check.due("one more", 1, core.input(7, 0));
        Check.due("it goes on", 3, core.run(9));
    }

    private static void promise10() {
        LabelledCore core = Asm.core(Asm.addI(1, 1, 1), Asm.call(0, -4));
        Check.due("nothing was done", 0, core.told(3));
        Check.due("1000 times", 1000, core.run(1000));
        Check.due("register", 500, core.register(1));
        Check.due("done", 1000, core.told(3));
        Check.due("3 times more", 3, core.run(3));
        Check.due("done in all", 1003, core.told(3));
    }

    private static void promise11() {
        LabelledCore core = new LabelledCore();
        core.set(1, 5, 1);
        core.set(2, -1, 0);
        core.set(3, 0, -1);
        core.set(4, Integer.MIN_VALUE, Integer.MIN_VALUE);
        Check.due("number and label", 4294967301L, core.register(1));
        Check.due("32 bits of the number", 4294967295L, core.register(2));
        Check.due("the label's highest bit", -4294967296L, core.register(3));
        Check.due("both highest bits", Long.MIN_VALUE + 2147483648L, core.register(4));
    }

    private static void promise12() {
        LabelledCore core = new LabelledCore();
        core.poke(0, 5, 1);
        core.poke(1, -1, 0);
        core.poke(62, 0, -1);
        core.poke(63, Integer.MIN_VALUE, Integer.MIN_VALUE);
        Check.due("number and label", 4294967301L, core.memory(0));
        Check.due("32 bits of the number", 4294967295L, core.memory(1));
        Check.due("the label's highest bit", -4294967296L, core.memory(62));
        Check.due("both highest bits", Long.MIN_VALUE + 2147483648L, core.memory(63));
    }

    private static void promise13() {
        LabelledCore core = Asm.core(Asm.out(1), Asm.addI(1, 1, 1), Asm.call(0, -8));
        core.set(1, -2, -8);
        core.run(1);
        Check.due("the first one", Check.pair(-2, -8), core.output(0));
        core.run(1000);
        Check.due("256 went out", 256, core.told(6));
        for (int i = 0; i < 256; i++) {
            Check.due("value " + i, Check.pair(i - 2, -8), core.output(i));
        }
    }

    private static void promise14() {
        LabelledCore core = used();
        Check.due("the kernel was never long", 0, core.told(8));

        LabelledCore busy = Asm.core(Asm.add(1, 1, 2), Asm.call(0, -4));
        for (int group = 0; group <= 8; group++) {
            busy.rule(group, 15, 15, 15, 15);
        }
        busy.run(1000);
        Check.due("the longest rules are not long", 0, busy.told(8));
    }
}
