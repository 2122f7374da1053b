/** All that the face shows of an object without changing it: told(), registers, memory, then what went out. */
final class Seen {
    private static final int TOLD = 9;
    private static final int REGISTERS = 32;
    private static final int WORDS = 64;
    private static final int BANKS_END = TOLD + REGISTERS + WORDS;

    private Seen() {
    }

    static long[] of(LabelledCore core) {
        int gone = core.told(6);
        long[] all = anew(gone);
        for (int i = 0; i < TOLD; i++) {
            all[i] = core.told(i);
        }
        for (int i = 0; i < REGISTERS; i++) {
            all[TOLD + i] = core.register(i);
        }
        for (int i = 0; i < WORDS; i++) {
            all[TOLD + REGISTERS + i] = core.memory(i);
        }
        for (int i = 0; i < gone; i++) {
            all[BANKS_END + i] = core.output(i);
        }
        return all;
    }

    /** Each told(what) stands at its own number. */
    static void due(String what, long[] due, LabelledCore core) {
        long[] got = of(core);
        Check.due(what + ": how much is seen", due.length, got.length);
        for (int i = 0; i < Math.min(due.length, got.length); i++) {
            Check.due(what + ": " + nameOf(i), due[i], got[i]);
        }
    }

    /** What is due when nothing has happened since begin(). */
    static void dueAnew(String what, LabelledCore core) {
        due(what, anew(0), core);
        Check.outOfBounds(what + ": output(0)", () -> core.output(0));
    }

    private static long[] anew(int gone) {
        return new long[BANKS_END + gone];
    }

    private static String nameOf(int i) {
        if (i < TOLD) {
            return "told(" + i + ")";
        }
        if (i < TOLD + REGISTERS) {
            return "register(" + (i - TOLD) + ")";
        }
        return i < BANKS_END ? "memory(" + (i - TOLD - REGISTERS) + ")" : "output(" + (i - BANKS_END) + ")";
    }
}
