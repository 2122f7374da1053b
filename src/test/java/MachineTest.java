/** What it is, LABELS and THE MACHINE: how far labels, registers, memory, the program and an object's calls go. */
public final class MachineTest {
    public static void main(String[] args) {
        fiveHundredAndTwelveCalls();
        everyBitOfALabel();
        joinAtTheEdges();
        withinForEveryBit();
        everyRegisterIsWritten();
        everyRegisterIsRead();
        registerZeroStays();
        everyByteOfMemory();
        lowestByteFirst();
        justOutsideMemory();
        wordsOfTheProgram();
        Check.end();
    }

    /** "An object is used for at most 512 calls after it has been made": the last one is answered as the first. */
    private static void fiveHundredAndTwelveCalls() {
        LabelledCore core = Asm.core(Asm.addI(1, 1, 1), Asm.call(0, -4));
        for (int call = 3; call <= 510; call++) {
            Check.due("call " + call, 1000, core.run(1000));
        }
        Check.due("call 511", 254000, core.register(1));
        Check.due("call 512", 508000, core.told(3));
    }

    /** "LABELS are 32 bits": each bit by itself, and each one missing, goes wherever a label goes. */
    private static void everyBitOfALabel() {
        for (int bit = 0; bit < 32; bit++) {
            labelGoesAllWays(1 << bit);
            labelGoesAllWays(~(1 << bit));
        }
    }

    private static void labelGoesAllWays(int label) {
        LabelledCore core = Asm.core(Asm.in(1), Asm.out(1), Asm.store(2, 1, 9, 0), Asm.load(2, 2, 9, 0),
            Asm.branch(0, 1, 1, 4), Asm.addI(3, 0, 8));
        core.set(4, 5, label);
        Check.due("set", Check.pair(5, label), core.register(4));
        core.poke(5, 6, label);
        Check.due("poke", Check.pair(6, label), core.memory(5));
        core.set(9, 4096, 0);
        core.input(7, label);
        Check.due("all of it", 6, core.run(6));
        Check.due("IN", Check.pair(7, label), core.register(1));
        Check.due("OUT", Check.pair(7, label), core.output(0));
        Check.due("STORE", Check.pair(7, label), core.memory(0));
        Check.due("LOAD", Check.pair(7, label), core.register(2));
        Check.due("the PC", label, core.told(2));
        Check.due("by the PC", Check.pair(8, label), core.register(3));
    }

    /** "The JOIN of labels has all their bits": nothing, all, the same twice, bits apart. */
    private static void joinAtTheEdges() {
        int[][] cases = {
            {0, 0, 0}, {0, -1, -1}, {-1, 0, -1}, {-1, -1, -1}, {5, 5, 5}, {1, Integer.MIN_VALUE, 0x80000001},
            {0x55555555, 0xAAAAAAAA, -1}, {6, 3, 7}
        };
        for (int[] c : cases) {
            LabelledCore core = Asm.core(Asm.add(3, 1, 2));
            core.set(1, 0, c[0]);
            core.set(2, 0, c[1]);
            core.run(1);
            Check.due("the join of " + c[0] + " and " + c[1], Check.pair(0, c[2]), core.register(3));
        }
    }

    private static void within(int label, int other, int due) {
        LabelledCore core = Asm.core(Asm.branch(0, 1, 2, 8));
        core.rule(4, 0, 0, 2, 4);
        core.set(1, 0, label);
        core.set(2, 0, other);
        Check.due(label + " within " + other, due, core.run(1));
        Check.due(label + " within " + other + ", outcome", due == 1 ? 0 : 2, core.told(0));
    }

    /** "a label is WITHIN another one if it has no bit that the other one has not". */
    private static void withinForEveryBit() {
        within(0, 0, 1);
        within(0, -1, 1);
        within(-1, -1, 1);
        within(-1, 0, 0);
        for (int bit = 0; bit < 32; bit++) {
            int one = 1 << bit;
            within(0, one, 1);
            within(one, one, 1);
            within(one, 0, 0);
            within(one, -1, 1);
            within(one, ~one, 0);
            within(~one, -1, 1);
            within(-1, ~one, 0);
            within(~one, ~one, 1);
        }
    }

    /** "registers 0 to 31 of 32 bits, register 0 always 0": as D. */
    private static void everyRegisterIsWritten() {
        LabelledCore core = new LabelledCore();
        for (int d = 0; d < 32; d++) {
            core.word(Asm.addI(d, 0, -1 - d));
        }
        Check.due("all are written", 32, core.run(32));
        Check.due("register 0", 0, core.register(0));
        for (int d = 1; d < 32; d++) {
            Check.due("register " + d, 4294967295L - d, core.register(d));
        }
    }

    /** "registers 0 to 31": as A and as B, with their labels. */
    private static void everyRegisterIsRead() {
        LabelledCore core = new LabelledCore();
        for (int i = 0; i < 32; i++) {
            core.word(Asm.out(i));
            core.word(Asm.add(30, 0, i));
            core.word(Asm.out(30));
        }
        for (int i = 1; i < 32; i++) {
            core.set(i, -i, i << 26);
        }
        Check.due("all are read", 96, core.run(96));
        for (int i = 0; i < 32; i++) {
            // by its turn register 30 holds what register 29 has
            int due = i == 30 ? 29 : i;
            Check.due("register A " + i, Check.pair(-due, due << 26), core.output(2 * i));
            Check.due("register B " + i, Check.pair(-due, due << 26), core.output(2 * i + 1));
        }
    }

    /** "register 0 always 0", "register 0 has the label 0", "What is put into register 0 is lost". */
    private static void registerZeroStays() {
        int[] writers = {
            Asm.add(0, 1, 2), Asm.work(0, 32, 0, 1, 2), Asm.addI(0, 1, 7), Asm.fields(19, 0, 5, 1, 1, 0),
            Asm.upper(0, 1), Asm.upperFromPc(0, 1), Asm.load(2, 0, 1, 0), Asm.load(0, 0, 1, 0), Asm.load(4, 0, 1, 0),
            Asm.call(0, 4), Asm.leap(0, 3, 0), Asm.in(0)
        };
        for (int w : writers) {
            LabelledCore core = Asm.core(w, Asm.add(4, 0, 0), Asm.out(0), Asm.halt());
            core.set(1, 4096, 1);
            core.set(2, 9, 2);
            core.set(3, 4, 0);
            core.poke(0, -1, 4);
            core.input(-1, 8);
            core.input(-2, 8);
            Check.due(w + " is done, and what is behind it", 3, core.run(9));
            Check.due(w + ": register 0", 0, core.register(0));
            Check.due(w + ": what comes of it", 0, core.register(4));
            Check.due(w + ": what goes out of it", 0, core.output(0));
            Check.due(w + ": IN took its value nevertheless", w == Asm.in(0) ? 1 : 2, core.told(7));
        }
    }

    /** "64 words of memory at the addresses 4096 to 4351, four bytes each": each byte is read and written. */
    private static void everyByteOfMemory() {
        for (int address = 4096; address <= 4351; address++) {
            LabelledCore core = Asm.core(Asm.load(4, 1, 9, 0), Asm.store(0, 2, 9, 0));
            core.set(9, address, 0);
            core.set(2, 0x111111C3, 0);
            int place = (address - 4096) / 4;
            int shift = address % 4 * 8;
            core.poke(place, 0xA5 << shift, 0);
            Check.due("both", 2, core.run(2));
            Check.due("the byte at " + address, 0xA5, core.register(1));
            Check.due("the byte put at " + address, 0xC3L << shift, core.memory(place));
        }
    }

    /** "the lowest byte of a word first". */
    private static void lowestByteFirst() {
        LabelledCore core = Asm.core(Asm.store(0, 1, 9, 0), Asm.store(0, 2, 9, 1), Asm.store(0, 3, 9, 2),
            Asm.store(0, 4, 9, 3), Asm.load(2, 5, 9, 0));
        core.set(9, 4348, 0);
        for (int i = 1; i <= 4; i++) {
            core.set(i, i * 0x11, 0);
        }
        Check.due("all", 5, core.run(5));
        Check.due("the last word", 0x44332211L, core.memory(63));
        Check.due("as it is read", 0x44332211L, core.register(5));
    }

    /** "at the addresses 4096 to 4351": one before and one behind are not in memory, nor is a word that sticks out. */
    private static void justOutsideMemory() {
        int[] all = {
            Asm.load(2, 1, 9, 0), Asm.load(0, 1, 9, 0), Asm.load(4, 1, 9, 0), Asm.store(2, 1, 9, 0), Asm.store(0, 1, 9, 0)
        };
        int[] outside = {
            4092, 4095, 4352, 4355, 0, 64, 256, -1, -4, 4096 - 65536, 4096 + 65536, 4096 + Integer.MIN_VALUE,
            Integer.MIN_VALUE, Integer.MAX_VALUE
        };
        for (int w : all) {
            for (int address : outside) {
                ends(w, address, 5);
            }
            ends(w, 4096, 0);
            ends(w, 4348, 0);
            boolean whole = (w >> 12 & 7) == 2;
            for (int address : new int[] {4097, 4098, 4099, 4349, 4350, 4351}) {
                ends(w, address, whole ? 5 : 0);
            }
        }
    }

    private static void ends(int w, int address, int outcome) {
        LabelledCore core = Asm.core(w);
        core.set(9, address, 0);
        Check.due(w + " at " + address, outcome == 0 ? 1 : 0, core.run(1));
        Check.due(w + " at " + address + ", outcome", outcome, core.told(0));
    }

    /** "a row of up to 256 words; word i is the instruction at the address 4 i": the first, the last, none behind. */
    private static void wordsOfTheProgram() {
        LabelledCore core = Asm.core(Asm.leap(0, 1, 0));
        for (int i = 1; i < 256; i++) {
            core.word(Asm.addI(2, 0, i));
        }
        for (int i : new int[] {1, 2, 127, 128, 254, 255}) {
            core.begin();
            core.set(1, 4 * i, 0);
            Check.due("the LEAP and word " + i, 2, core.run(2));
            Check.due("word " + i, i, core.register(2));
        }
        Check.due("behind the last word", 0, core.run(1));
        Check.due("no word stands", 4, core.told(0));
        Check.due("at 1024", 1024, core.told(1));
        core.begin();
        Check.due("word 0 is at 0, and goes there again", 9, core.run(9));
    }
}
