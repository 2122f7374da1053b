/** A STEP: which outcome comes first, and that nothing else changes where no instruction is done. */
public final class StepTest {
    public static void main(String[] args) {
        outsideTheProgram();
        betweenTwoWords();
        wordsThatComeLater();
        wordsThatAreNone();
        haltHasNoRule();
        memoryBeforeRules();
        outStandsStill();
        lastOut();
        inStandsStill();
        refused();
        outcomesStay();
        Check.end();
    }

    /** "Where it isn't done nothing else changes": only the outcome and the misses may. */
    private static void notDone(String what, LabelledCore core, int outcome, int moreMisses) {
        long[] due = Seen.of(core);
        due[0] = outcome;
        due[4] += moreMisses;
        Check.due(what + ": run(7)", 0, core.run(7));
        Seen.due(what, due, core);
    }

    private static void forbidAll(LabelledCore core) {
        for (int group = 0; group <= 8; group++) {
            core.rule(group, 15, 15, 15, 0);
        }
    }

    /** All labels are set, so that a rule with LEFT 15 and RIGHT 0 forbids every instruction. */
    private static LabelledCore forbidding(int... program) {
        int[] all = new int[program.length + 1];
        all[0] = Asm.branch(0, 30, 30, 4);
        System.arraycopy(program, 0, all, 1, program.length);
        LabelledCore core = Asm.core(all);
        core.set(30, 0, 64);
        core.run(1);
        Check.due("the label of the PC", 64, core.told(2));
        forbidAll(core);
        return core;
    }

    /** "No word stands at the PC, or it is no multiple of 4: the outcome is 4". */
    private static void outsideTheProgram() {
        for (int target : new int[] {8, 12, 1024, 4096, -4, -8, Integer.MIN_VALUE, Integer.MAX_VALUE - 3, 2, 6, -2}) {
            LabelledCore core = Asm.core(Asm.leap(0, 1, 0), Asm.halt());
            core.set(1, target, 0);
            Check.due("leap", 1, core.run(1));
            Check.due("the leap is done", 0, core.told(0));
            notDone("at " + target, core, 4, 0);
        }
        notDone("no program", new LabelledCore(), 4, 0);
    }

    /** "the first of these that holds": no multiple of 4 comes before what the word there is. */
    private static void betweenTwoWords() {
        int[] others = {0, Asm.halt(), Asm.load(2, 1, 0, 0), Asm.in(1), Asm.addI(1, 1, 1)};
        for (int w : others) {
            LabelledCore core = Asm.core(Asm.leap(0, 1, 0), w, w);
            core.set(1, 6, 0);
            Check.due("leap", 1, core.run(1));
            notDone("at 6, between words " + w, core, 4, 0);
        }
    }

    /** The same for a word that comes where the program ends: it is there if it comes before the step. */
    private static void wordsThatComeLater() {
        LabelledCore core = Asm.core(Asm.addI(1, 1, 1));
        Check.due("the first word", 1, core.run(1));
        Check.due("the outcome is still 0", 0, core.told(0));
        core.word(Asm.addI(1, 1, 1));
        Check.due("the second word", 1, core.run(1));
        notDone("behind it", core, 4, 0);
        core.word(Asm.addI(1, 1, 1));
        notDone("the third word came too late", core, 4, 0);
    }

    /** "The word is none of the instructions: 3". */
    private static void wordsThatAreNone() {
        for (int w : new int[] {0, -1, 127, Asm.fields(51, 1, 1, 2, 3, 32), Asm.fields(11, 0, 3, 0, 0, 0)}) {
            notDone("word " + w, forbidding(w), 3, 0);
        }
    }

    /** "It is HALT: 1", and it "has no group". */
    private static void haltHasNoRule() {
        notDone("HALT", forbidding(Asm.halt()), 1, 0);
        notDone("HALT with other bits", forbidding(Asm.fields(11, 31, 2, 31, 31, 127)), 1, 0);
    }

    /** "An address of LOAD, STORE or PATCH lies not in memory ...: 5" comes before "It is not allowed: 2". */
    private static void memoryBeforeRules() {
        notDone("LOAD", forbidding(Asm.load(2, 1, 0, 0)), 5, 0);
        notDone("LOAD of a byte", forbidding(Asm.load(0, 1, 0, 0)), 5, 0);
        notDone("STORE", forbidding(Asm.store(2, 1, 0, 0)), 5, 0);
        notDone("PATCH", forbidding(Asm.store(0, 1, 0, 0)), 5, 0);
        LabelledCore odd = forbidding(Asm.load(2, 1, 9, 0));
        odd.set(9, 4098, 1);
        notDone("LOAD of a word between", odd, 5, 0);
        LabelledCore oddStore = forbidding(Asm.store(2, 1, 9, 0));
        oddStore.set(9, 4097, 1);
        notDone("STORE of a word between", oddStore, 5, 0);
        LabelledCore oddPatch = forbidding(Asm.store(0, 1, 9, 0));
        oddPatch.set(9, 4097, 1);
        notDone("PATCH has no between", oddPatch, 2, 1);
    }

    /** "It is OUT and 256 values went out ...: it stands still", which comes before "It is not allowed: 2". */
    private static void outStandsStill() {
        LabelledCore core = Asm.core(Asm.out(1), Asm.call(0, -4));
        Check.due("255 times two", 510, core.run(510));
        Check.due("255 went out", 255, core.told(6));
        Check.due("the 256th", 2, core.run(2));
        Check.due("256 went out", 256, core.told(6));
        core.rule(7, 15, 15, 15, 0);
        core.set(1, 1, 1);
        Check.due("OUT with 256 gone", 0, core.run(7));
        Check.due("it stands still", 0, core.told(0));
        Check.due("at the OUT", 0, core.told(1));
        Check.due("without a miss", 2, core.told(4));
        Check.due("the last one", 0, core.output(255));
        Check.outOfBounds("no 257th", () -> core.output(256));
        Check.due("it stands still again", 0, core.run(1));
        core.begin();
        Check.due("begin() lets it go on", 1, core.run(1));
    }

    /** "OUT and 256 values went out": the 256th is refused like any other, and other instructions go on behind it. */
    private static void lastOut() {
        LabelledCore core = Asm.core(Asm.out(1), Asm.call(0, -4));
        core.run(510);
        core.rule(7, 3, 1, 2, 0);
        core.set(1, 1, 1);
        Check.due("the 256th is not allowed", 0, core.run(1));
        Check.due("its outcome", 2, core.told(0));

        LabelledCore on = Asm.core(Asm.out(1), Asm.branch(1, 1, 2, -4), Asm.in(3), Asm.halt());
        Check.due("OUT and the BRANCH behind it", 1, on.run(1));
        on.set(1, 1, 0);
        Check.due("255 more and the BRANCHes", 511, on.run(511));
        Check.due("256 went out", 256, on.told(6));
        on.begin();
        on.set(1, 1, 0);
        on.run(511);
        on.set(2, 1, 0);
        on.input(4, 5);
        Check.due("BRANCH and IN with 256 gone", 2, on.run(9));
        Check.due("to HALT", 1, on.told(0));
        Check.due("what came in", Check.pair(4, 5), on.register(3));
    }

    /** "or IN and no value waits: it stands still", which comes before "It is not allowed: 2". */
    private static void inStandsStill() {
        LabelledCore core = forbidding(Asm.in(1), Asm.halt());
        notDone("IN with none waiting", core, 0, 0);
        Check.due("IN again", 0, core.run(1));
        core.input(3, 0);
        notDone("IN with one waiting", core, 2, 1);

        LabelledCore free = Asm.core(Asm.in(1), Asm.halt());
        notDone("IN with none waiting", free, 0, 0);
        free.input(3, 4);
        Check.due("it goes on", 1, free.run(7));
        Check.due("and takes it", Check.pair(3, 4), free.register(1));
        Check.due("to HALT", 1, free.told(0));

        LabelledCore last = Asm.core(Asm.in(1), Asm.in(2), Asm.halt());
        last.input(3, 0);
        Check.due("the last one that waits", 1, last.run(9));
        notDone("and none behind it", last, 0, 0);
    }

    /** "It is not allowed: 2 (and a miss)". */
    private static void refused() {
        int[] all = {
            Asm.add(1, 1, 1), Asm.addI(1, 1, 1), Asm.upper(1, 1), Asm.upperFromPc(1, 1), Asm.load(2, 1, 9, 0),
            Asm.store(2, 1, 9, 0), Asm.store(0, 1, 9, 0), Asm.branch(0, 0, 0, -4), Asm.call(1, -4),
            Asm.leap(1, 1, 0), Asm.out(1), Asm.in(1)
        };
        for (int w : all) {
            LabelledCore core = forbidding(w);
            core.set(1, 5, 6);
            core.set(9, 4096, 0);
            core.input(1, 2);
            notDone("word " + w, core, 2, 1);
            notDone("word " + w + " again", core, 2, 0);
        }
    }

    /** "A STEP of the machine, while its OUTCOME is 0". */
    private static void outcomesStay() {
        LabelledCore core = Asm.core(Asm.load(2, 1, 9, 0), Asm.halt());
        Check.due("no memory", 0, core.run(1));
        core.set(9, 4096, 0);
        core.poke(0, 3, 3);
        notDone("an outcome stays", core, 5, 0);
        core.begin();
        core.set(9, 4096, 0);
        Check.due("until begin()", 1, core.run(1));
        notDone("to HALT", core, 1, 0);

        LabelledCore refused = Asm.core(Asm.out(1));
        refused.rule(7, 0, 0, 2, 0);
        refused.set(1, 5, 6);
        Check.due("not allowed", 0, refused.run(1));
        refused.rule(7, 0, 0, 0, 0);
        notDone("a rule does not make it 0", refused, 2, 0);

        LabelledCore halted = Asm.core(Asm.halt());
        Check.due("HALT", 0, halted.run(1));
        notDone("and there it stays", halted, 1, 0);
        Check.due("a value may come in", 1, halted.input(1, 1));
    }
}
