/** Long runs of calls, made by a fixed formula, on the program and on the model of the document side by side. */
public final class ModelTest {
    private static final int RUNS = 20000;
    private static final int CALLS = 60;
    /** An object may be called 512 times: each call is answered, every sixth looked behind, and all seen at the end. */
    private static final int LOOK_EVERY = 6;
    private static final int MOST_OUTPUTS = 200;

    private static long seed = 20261115;
    private static final int[] OUTCOMES = new int[6];
    private static int longRuns = 0;

    public static void main(String[] args) {
        for (int run = 0; run < RUNS; run++) {
            oneRun(run);
        }
        for (int i = 0; i < 6; i++) {
            Check.holds("runs with the outcome " + i + " are many", OUTCOMES[i] > 20);
        }
        Check.holds("long ones too", longRuns > 100);
        Check.end();
    }

    private static int number(int below) {
        seed = seed * 6364136223846793005L + 1442695040888963407L;
        return (int) ((seed >>> 33) % below);
    }

    private static int value() {
        switch (number(6)) {
            case 0:
                return 4096 + number(256);
            case 1:
                return 4 * number(24);
            case 2:
                return number(5) - 2;
            case 3:
                return 4096 + 4 * number(64);
            case 4:
                return Integer.MIN_VALUE + number(3) - 1;
            default:
                return number(1 << 16) << 16 | number(1 << 16);
        }
    }

    private static int label() {
        return number(3) == 0 ? 0 : number(6) == 0 ? -1 << number(32) : 1 << number(4);
    }

    private static int low() {
        return number(6);
    }

    private static int instruction() {
        int plain = number(8);
        switch (number(16)) {
            case 0:
            case 1:
                return Asm.work(plain, (plain == 0 || plain == 5) && number(2) == 0 ? 32 : 0, low(), low(), low());
            case 2:
            case 3:
                int g = plain == 1 ? 0 : plain == 5 ? 32 * number(2) : number(128);
                return Asm.fields(19, low(), plain, low(), number(32), g);
            case 4:
                return number(2) == 0 ? Asm.upper(low(), number(3)) : Asm.upperFromPc(low(), number(1 << 20));
            case 5:
            case 6:
                return Asm.load(2 * number(3), low(), low(), number(3) == 0 ? number(64) - 32 : 0);
            case 7:
                return Asm.store(2, low(), low(), number(3) == 0 ? number(64) - 32 : 0);
            case 8:
                return Asm.store(0, low(), low(), number(3) == 0 ? number(64) - 32 : 0);
            case 9:
            case 10:
                return Asm.branch(new int[] {0, 1, 4, 5, 6, 7}[number(6)], low(), low(), 4 * (number(9) - 4));
            case 11:
                return Asm.call(low(), 4 * (number(9) - 4));
            case 12:
                return Asm.leap(low(), low(), 4 * number(8));
            case 13:
                return Asm.out(low());
            case 14:
                return Asm.in(low());
            default:
                return number(8) == 0 ? value() : number(4) == 0 ? Asm.halt() : Asm.addI(low(), 0, number(64));
        }
    }

    private static void oneRun(int run) {
        LabelledCore core = new LabelledCore();
        Model model = new Model();
        int words = 1 + number(24);
        for (int i = 0; i < words; i++) {
            int w = instruction();
            Check.due("run " + run + " word", model.word(w), core.word(w));
        }
        for (int call = 0; call < CALLS; call++) {
            String what = "run " + run + " call " + call;
            oneCall(what, core, model);
            if (call % LOOK_EVERY == 0) {
                compareTold(what, core, model);
            }
        }
        compare("run " + run, core, model);
        OUTCOMES[model.outcome]++;
        longRuns += model.done > 500 ? 1 : 0;
    }

    private static void oneCall(String what, LabelledCore core, Model model) {
        int v = value();
        int label = label();
        switch (number(12)) {
            case 0:
            case 1:
                int register = 1 + number(5);
                core.set(register, v, label);
                model.set(register, v, label);
                break;
            case 2:
            case 3:
                int place = number(64);
                core.poke(place, v, label);
                model.poke(place, v, label);
                break;
            case 4:
            case 5:
                Check.due(what + " input", model.input(v, label), core.input(v, label));
                break;
            case 6:
                seldom(what, core, model);
                break;
            default:
                int times = number(10) == 0 ? number(1001) : number(5);
                Check.due(what + " run(" + times + ")", model.run(times), core.run(times));
        }
    }

    private static void seldom(String what, LabelledCore core, Model model) {
        int[] r = {number(9), number(16), number(16), number(16) & number(16), number(16) | number(16)};
        switch (number(6)) {
            case 0:
                core.rule(r[0], r[1], r[2], r[3], r[4]);
                model.rule(r[0], r[1], r[2], r[3], r[4]);
                break;
            case 1:
                int entries = 1 + number(number(2) == 0 ? 4 : 64);
                Check.due(what + " cache", model.cache(entries), core.cache(entries));
                break;
            case 2:
                if (model.outcome != 0 && number(2) == 0) {
                    Check.due(what + " clear", model.clear(), core.clear());
                }
                break;
            case 3:
                if (model.outcome != 0) {
                    core.begin();
                    model.begin();
                }
                break;
            default:
                int w = instruction();
                Check.due(what + " word", model.word(w), core.word(w));
        }
    }

    private static void compareTold(String what, LabelledCore core, Model model) {
        for (int i = 0; i <= 8; i++) {
            Check.due(what + " told(" + i + ")", model.told(i), core.told(i));
        }
    }

    private static void compare(String what, LabelledCore core, Model model) {
        compareTold(what, core, model);
        for (int i = 0; i < 32; i++) {
            Check.due(what + " register(" + i + ")", model.register(i), core.register(i));
        }
        for (int i = 0; i < 64; i++) {
            Check.due(what + " memory(" + i + ")", model.memory(i), core.memory(i));
        }
        for (int i = Math.max(0, model.gone.size() - MOST_OUTPUTS); i < model.gone.size(); i++) {
            Check.due(what + " output(" + i + ")", model.gone.get(i), core.output(i));
        }
        Check.outOfBounds(what + " output behind the last", () -> core.output(model.gone.size()));
    }
}
