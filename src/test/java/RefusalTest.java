import java.util.function.Consumer;

/**
 * "Methods throw what their comments name; a call that throws, or answers NONE, changes nothing."
 * Each refused call is made on one of two objects that are alike, and these must stay alike, also in what
 * cannot be seen at once: the program, the rules and the entries.
 */
public final class RefusalTest {
    private static final int[] FAR_OFF = {Integer.MIN_VALUE, -1, 4096, Integer.MAX_VALUE};

    public static void main(String[] args) {
        rules();
        numbersAndLabels();
        readings();
        fullProgram();
        fullLine();
        Check.end();
    }

    /** Goes round with four values waiting, some gone out, keys known; rules and entries are not the first ones. */
    private static LabelledCore busy() {
        LabelledCore core = Asm.core(Asm.in(1), Asm.out(1), Asm.store(0, 1, 9, 1), Asm.addI(2, 2, 1), Asm.call(0, -16));
        core.rule(0, 3, 0, 0, 0);
        core.rule(8, 8, 8, 0, 0);
        core.cache(7);
        core.set(9, 4096, 0);
        core.set(2, 3, 32);
        core.poke(0, -1, -1);
        for (int i = 1; i <= 6; i++) {
            core.input(100 + i, i);
        }
        Check.due("two turns", 10, core.run(10));
        return core;
    }

    /** The same with an outcome: the PATCH is not allowed. */
    private static LabelledCore stopped() {
        LabelledCore core = busy();
        core.rule(3, 15, 15, 8, 0);
        Check.due("the way to the PATCH", 2, core.run(10));
        Check.due("which is refused", 2, core.told(0));
        return core;
    }

    private static void stayAlike(String what, LabelledCore touched, LabelledCore other) {
        Seen.due(what, Seen.of(other), touched);
        Check.due(what + ": the steps then", other.run(7), touched.run(7));
        Seen.due(what + ", and some steps", Seen.of(other), touched);
        Check.due(what + ": the entries", other.cache(7), touched.cache(7));
        Check.due(what + ": the words", other.clear(), touched.clear());
    }

    private static void refuses(String what, Consumer<LabelledCore> call) {
        LabelledCore running = busy();
        Check.illegal(what, () -> call.accept(running));
        stayAlike(what, running, busy());
        LabelledCore ended = stopped();
        Check.illegal(what + " with an outcome", () -> call.accept(ended));
        stayAlike(what + " with an outcome", ended, stopped());
    }

    private static void rules() {
        refuses("group 9", core -> core.rule(9, 15, 15, 0, 0));
        refuses("group -1", core -> core.rule(-1, 15, 15, 0, 0));
        for (int group : new int[] {0, 3, 8}) {
            for (int wrong : new int[] {-1, 16, Integer.MIN_VALUE, Integer.MAX_VALUE}) {
                refuses("RESULT " + wrong, core -> core.rule(group, wrong, 15, 15, 0));
                refuses("NEXT " + wrong, core -> core.rule(group, 15, wrong, 15, 0));
                refuses("LEFT " + wrong, core -> core.rule(group, 15, 15, wrong, 0));
                refuses("RIGHT " + wrong, core -> core.rule(group, 15, 15, 15, wrong));
            }
        }
        for (int wrong : new int[] {0, 65, -1, Integer.MIN_VALUE, Integer.MAX_VALUE}) {
            refuses("cache(" + wrong + ")", core -> core.cache(wrong));
        }
    }

    private static void numbersAndLabels() {
        refuses("set(0, ..)", core -> core.set(0, 5, 6));
        refuses("set(32, ..)", core -> core.set(32, 5, 6));
        refuses("poke(64, ..)", core -> core.poke(64, 5, 6));
        refuses("run(1001)", core -> core.run(1001));
        for (int wrong : FAR_OFF) {
            refuses("set(" + wrong + ", ..)", core -> core.set(wrong, 5, 6));
            refuses("poke(" + wrong + ", ..)", core -> core.poke(wrong, 5, 6));
            refuses("run(" + wrong + ")", core -> core.run(wrong));
        }
    }

    private static void readings() {
        refuses("register(32)", core -> core.register(32));
        refuses("memory(64)", core -> core.memory(64));
        refuses("told(9)", core -> core.told(9));
        for (int wrong : FAR_OFF) {
            refuses("register(" + wrong + ")", core -> core.register(wrong));
            refuses("memory(" + wrong + ")", core -> core.memory(wrong));
            refuses("told(" + wrong + ")", core -> core.told(wrong));
        }
        for (int wrong : new int[] {2, 256, -1, Integer.MIN_VALUE, Integer.MAX_VALUE}) {
            LabelledCore core = busy();
            Check.outOfBounds("output(" + wrong + ")", () -> core.output(wrong));
            stayAlike("output(" + wrong + ")", core, busy());
        }
    }

    /** 256 words, of which the first ones are a loop and the others wait to be found. */
    private static LabelledCore withFullProgram() {
        LabelledCore core = new LabelledCore();
        for (int i = 0; i < 255; i++) {
            core.word(Asm.addI(1, 1, 1));
        }
        core.word(Asm.call(0, -1020));
        Check.due("a turn and a half", 400, core.run(400));
        return core;
    }

    private static void fullProgram() {
        LabelledCore core = withFullProgram();
        for (int w : new int[] {0, -1, Asm.halt(), Asm.addI(1, 1, 7)}) {
            Check.due("a word too many", LabelledCore.NONE, core.word(w));
        }
        Check.due("the steps then", 1000, core.run(1000));
        LabelledCore other = withFullProgram();
        Check.due("the steps then, without it", 1000, other.run(1000));
        Seen.due("a word too many", Seen.of(other), core);
        Check.due("the words", 256, core.clear());
    }

    private static LabelledCore withFullLine() {
        LabelledCore core = Asm.core(Asm.in(1), Asm.out(1), Asm.call(0, -8));
        for (int i = 0; i < 64; i++) {
            core.input(i, i);
        }
        return core;
    }

    private static void fullLine() {
        LabelledCore core = withFullLine();
        Check.due("a value too many", LabelledCore.NONE, core.input(-1, -1));
        Check.due("another one", -1, core.input(-2, -2));
        Seen.due("a value too many", Seen.of(withFullLine()), core);
        LabelledCore other = withFullLine();
        Check.due("all that wait, without it", 192, other.run(1000));
        Check.due("all that wait", 192, core.run(1000));
        Seen.due("a value too many, and all are taken", Seen.of(other), core);
    }
}
