/** A STEP: which outcome comes first, and that nothing else changes where no instruction is done. */
public final class StepTest {
    public static void main(String[] args) {
        outsideTheProgram();
        wordsThatAreNone();
        haltHasNoRule();
        memoryBeforeRules();
        outStandsStill();
        inStandsStill();
        refused();
        outcomesStay();
        Check.end();
    }

    /** Runs a step that is not done and looks that only the outcome and the misses changed. */
    private static void notDone(String what, LabelledCore core, int outcome, int moreMisses) {
        int[] told = new int[9];
        for (int i = 0; i <= 8; i++) {
            told[i] = core.told(i);
        }
        long[] registers = new long[32];
        for (int i = 0; i < 32; i++) {
            registers[i] = core.register(i);
        }
        long[] memory = new long[64];
        for (int i = 0; i < 64; i++) {
            memory[i] = core.memory(i);
        }
        Check.due(what + ": run(7)", 0, core.run(7));
        told[0] = outcome;
        told[4] += moreMisses;
        for (int i = 0; i <= 8; i++) {
            Check.due(what + ": told(" + i + ")", told[i], core.told(i));
        }
        for (int i = 0; i < 32; i++) {
            Check.due(what + ": register(" + i + ")", registers[i], core.register(i));
        }
        for (int i = 0; i < 64; i++) {
            Check.due(what + ": memory(" + i + ")", memory[i], core.memory(i));
        }
    }

    private static void forbidAll(LabelledCore core) {
        for (int group = 0; group <= 8; group++) {
            core.rule(group, 15, 15, 15, 0);
        }
    }

    /** All labels are set, so that a rule with LEFT 15 and RIGHT 0 forbids every instruction. */
    private static LabelledCore forbidding(int... program) {
        int[] all = new int[program.length + 1];
        all[0] = Asm.branch(0, 30, 30, 4);
        System.arraycopy(program, 0, all, 1, program.length);
        LabelledCore core = Asm.core(all);
        core.set(30, 0, 64);
        core.run(1);
        Check.due("the label of the PC", 64, core.told(2));
        forbidAll(core);
        return core;
    }

    private static void outsideTheProgram() {
        for (int target : new int[] {8, 12, 1024, 4096, -4, -8, Integer.MIN_VALUE, Integer.MAX_VALUE - 3, 2, 6, -2}) {
            LabelledCore core = Asm.core(Asm.leap(0, 1, 0), Asm.halt());
            core.set(1, target, 0);
            Check.due("leap", 1, core.run(1));
            Check.due("the leap is done", 0, core.told(0));
            notDone("at " + target, core, 4, 0);
        }
        notDone("no program", new LabelledCore(), 4, 0);
    }

    private static void wordsThatAreNone() {
        for (int w : new int[] {0, -1, 127, Asm.fields(51, 1, 1, 2, 3, 32), Asm.fields(11, 0, 3, 0, 0, 0)}) {
            notDone("word " + w, forbidding(w), 3, 0);
        }
    }

    private static void haltHasNoRule() {
        notDone("HALT", forbidding(Asm.halt()), 1, 0);
        notDone("HALT with other bits", forbidding(Asm.fields(11, 31, 2, 31, 31, 127)), 1, 0);
    }

    private static void memoryBeforeRules() {
        notDone("LOAD", forbidding(Asm.load(2, 1, 0, 0)), 5, 0);
        notDone("LOAD of a byte", forbidding(Asm.load(0, 1, 0, 0)), 5, 0);
        notDone("STORE", forbidding(Asm.store(2, 1, 0, 0)), 5, 0);
        notDone("PATCH", forbidding(Asm.store(0, 1, 0, 0)), 5, 0);
        LabelledCore odd = forbidding(Asm.load(2, 1, 9, 0));
        odd.set(9, 4098, 1);
        notDone("LOAD of a word between", odd, 5, 0);
    }

    private static void outStandsStill() {
        LabelledCore core = Asm.core(Asm.out(1), Asm.call(0, -4));
        Check.due("255 times two", 510, core.run(510));
        Check.due("the 256th", 2, core.run(2));
        Check.due("256 went out", 256, core.told(6));
        core.cache(16);
        core.rule(7, 15, 15, 15, 0);
        core.set(1, 1, 1);
        notDone("OUT with 256 gone", core, 0, 0);
        Check.due("the last one", 0, core.output(255));
        Check.outOfBounds("no 257th", () -> core.output(256));
    }

    private static void inStandsStill() {
        LabelledCore core = forbidding(Asm.in(1), Asm.halt());
        notDone("IN with none waiting", core, 0, 0);
        notDone("IN again", core, 0, 0);
        core.input(3, 0);
        notDone("IN with one waiting", core, 2, 1);

        LabelledCore free = Asm.core(Asm.in(1), Asm.halt());
        notDone("IN with none waiting", free, 0, 0);
        free.input(3, 4);
        Check.due("it goes on", 1, free.run(7));
        Check.due("and takes it", Check.pair(3, 4), free.register(1));
        Check.due("to HALT", 1, free.told(0));
    }

    private static void refused() {
        int[] all = {
            Asm.add(1, 1, 1), Asm.addI(1, 1, 1), Asm.upper(1, 1), Asm.upperFromPc(1, 1), Asm.load(2, 1, 9, 0),
            Asm.store(2, 1, 9, 0), Asm.store(0, 1, 9, 0), Asm.branch(0, 0, 0, -4), Asm.call(1, -4),
            Asm.leap(1, 1, 0), Asm.out(1), Asm.in(1)
        };
        for (int w : all) {
            LabelledCore core = forbidding(w);
            core.set(1, 5, 6);
            core.set(9, 4096, 0);
            core.input(1, 2);
            notDone("word " + w, core, 2, 1);
            notDone("word " + w + " again", core, 2, 0);
        }
    }

    private static void outcomesStay() {
        LabelledCore core = Asm.core(Asm.load(2, 1, 9, 0), Asm.halt());
        Check.due("no memory", 0, core.run(1));
        core.set(9, 4096, 0);
        core.poke(0, 3, 3);
        notDone("an outcome stays", core, 5, 0);
        core.begin();
        core.set(9, 4096, 0);
        Check.due("until begin()", 1, core.run(1));
        notDone("to HALT", core, 1, 0);
        notDone("and there it stays", core, 1, 0);
        Check.due("a value may come in", 1, core.input(1, 1));
    }
}
