/** INSTRUCTIONS: what each one does, and which words are none. */
public final class InstructionTest {
    private static final int[] NUMBERS = {
        0, 1, 2, 5, 31, 32, 33, 63, 255, 4095, 4096, -1, -2, -31, -32, -2048, 2047,
        Integer.MIN_VALUE, Integer.MIN_VALUE + 1, Integer.MAX_VALUE, 0x12345678, 0xCAFEBABE
    };

    public static void main(String[] args) {
        work();
        wraps();
        shiftsAtTheEdges();
        lessAtTheEdges();
        workWithNumber();
        shiftsByNumber();
        uppers();
        loads();
        everyByteIsLoaded();
        stores();
        addresses();
        branches();
        branchOffsets();
        calls();
        leaps();
        outAndIn();
        whichWordsAreInstructions();
        Check.end();
    }

    /** What F and G make of two numbers, in long arithmetic where that is another way. */
    private static int due(int f, int g, int a, int b) {
        switch (f) {
            case 0:
                return (int) (g == 0 ? (long) a + b : (long) a - b);
            case 1:
                return (int) ((long) a << Math.floorMod(b, 32));
            case 2:
                return Integer.compare(a, b) < 0 ? 1 : 0;
            case 3:
                return Integer.compareUnsigned(a, b) < 0 ? 1 : 0;
            case 4:
                return (a | b) - (a & b);
            case 5:
                long wide = g == 0 ? Integer.toUnsignedLong(a) : a;
                return (int) (wide >> Math.floorMod(b, 32));
            case 6:
                return ~(~a & ~b);
            default:
                return ~(~a | ~b);
        }
    }

    private static int worked(int w, int a, int b) {
        LabelledCore core = Asm.core(w);
        core.set(6, a, 0);
        core.set(7, b, 0);
        Check.due("it is done", 1, core.run(1));
        Check.due("the PC goes on by 4", 4, core.told(1));
        return (int) core.register(31);
    }

    /** "Code 51 with G 0 and F 0 to 7 ..., with G 32: F 0 sub, F 5 sra, of the registers A and B into D". */
    private static void work() {
        int[][] kinds = {{0, 0}, {1, 0}, {2, 0}, {3, 0}, {4, 0}, {5, 0}, {6, 0}, {7, 0}, {0, 32}, {5, 32}};
        for (int[] kind : kinds) {
            int w = Asm.work(kind[0], kind[1], 31, 6, 7);
            for (int a : NUMBERS) {
                for (int b : NUMBERS) {
                    Check.due("51, F " + kind[0] + " G " + kind[1] + " of " + a + " and " + b,
                        due(kind[0], kind[1], a, b), worked(w, a, b));
                }
            }
        }
    }

    /** "Sums and differences wrap". */
    private static void wraps() {
        int add = Asm.work(0, 0, 31, 6, 7);
        int sub = Asm.work(0, 32, 31, 6, 7);
        Check.due("the greatest and 1", Integer.MIN_VALUE, worked(add, Integer.MAX_VALUE, 1));
        Check.due("the least and -1", Integer.MAX_VALUE, worked(add, Integer.MIN_VALUE, -1));
        Check.due("the least twice", 0, worked(add, Integer.MIN_VALUE, Integer.MIN_VALUE));
        Check.due("-1 and 1", 0, worked(add, -1, 1));
        Check.due("the least less 1", Integer.MAX_VALUE, worked(sub, Integer.MIN_VALUE, 1));
        Check.due("the greatest less -1", Integer.MIN_VALUE, worked(sub, Integer.MAX_VALUE, -1));
        Check.due("0 less the least", Integer.MIN_VALUE, worked(sub, 0, Integer.MIN_VALUE));
        Check.due("0 less 1", -1, worked(sub, 0, 1));
        Check.due("the greatest and I 2047",
            Integer.MIN_VALUE + 2046, worked(Asm.addI(31, 6, 2047), Integer.MAX_VALUE, 0));
        Check.due("the least and I -2048",
            Integer.MAX_VALUE - 2047, worked(Asm.addI(31, 6, -2048), Integer.MIN_VALUE, 0));
    }

    /** "sll, srl (zeros come in) and sra (the sign comes in) by the lowest five bits": 0, 31, 32 and beyond. */
    private static void shiftsAtTheEdges() {
        int sll = Asm.work(1, 0, 31, 6, 7);
        int srl = Asm.work(5, 0, 31, 6, 7);
        int sra = Asm.work(5, 32, 31, 6, 7);
        for (int by : new int[] {31, 63, -1, Integer.MAX_VALUE}) {
            Check.due("sll by " + by, Integer.MIN_VALUE, worked(sll, -1, by));
            Check.due("srl by " + by, 1, worked(srl, -1, by));
            Check.due("sra by " + by, -1, worked(sra, Integer.MIN_VALUE, by));
            Check.due("sra of a number without a sign by " + by, 0, worked(sra, Integer.MAX_VALUE, by));
        }
        for (int by : new int[] {0, 32, 64, -32, Integer.MIN_VALUE}) {
            for (int w : new int[] {sll, srl, sra}) {
                Check.due("a shift by " + by, -5, worked(w, -5, by));
            }
        }
    }

    /** "slt and sltu answer 1 if the first one is less (sltu: without signs), else 0". */
    private static void lessAtTheEdges() {
        int slt = Asm.work(2, 0, 31, 6, 7);
        int sltu = Asm.work(3, 0, 31, 6, 7);
        int[][] cases = {
            {0, 0, 0, 0}, {-1, -1, 0, 0}, {Integer.MIN_VALUE, Integer.MIN_VALUE, 0, 0}, {-1, 0, 1, 0}, {0, -1, 0, 1},
            {Integer.MIN_VALUE, Integer.MAX_VALUE, 1, 0}, {Integer.MAX_VALUE, Integer.MIN_VALUE, 0, 1},
            {Integer.MAX_VALUE - 1, Integer.MAX_VALUE, 1, 1}, {-2, -1, 1, 1}, {1, 0, 0, 0}
        };
        for (int[] c : cases) {
            Check.due("slt of " + c[0] + " and " + c[1], c[2], worked(slt, c[0], c[1]));
            Check.due("sltu of " + c[0] + " and " + c[1], c[3], worked(sltu, c[0], c[1]));
        }
        Check.due("I has its sign before sltu leaves it aside",
            1, worked(Asm.workI(3, 31, 6, -1), Integer.MAX_VALUE, 0));
        Check.due("sltu of 2047 and I 2047", 0, worked(Asm.workI(3, 31, 6, 2047), 2047, 0));
    }

    /** "of register A and I", "a number of 12 bits with its sign": from -2048 to 2047. */
    private static void workWithNumber() {
        for (int f : new int[] {0, 2, 3, 4, 6, 7}) {
            for (int i : new int[] {0, 1, 31, 1024, 1055, 2047, -1, -2, -1024, -2048}) {
                for (int a : NUMBERS) {
                    Check.due("19, F " + f + " of " + a + " and " + i,
                        due(f, 0, a, i), worked(Asm.workI(f, 31, 6, i), a, 99));
                }
            }
        }
    }

    /** "of register A and B (0 to 31)". */
    private static void shiftsByNumber() {
        for (int by = 0; by < 32; by++) {
            for (int a : NUMBERS) {
                Check.due("sll by " + by, due(1, 0, a, by), worked(Asm.fields(19, 31, 1, 6, by, 0), a, 99));
                Check.due("srl by " + by, due(5, 0, a, by), worked(Asm.fields(19, 31, 5, 6, by, 0), a, 99));
                Check.due("sra by " + by, due(5, 32, a, by), worked(Asm.fields(19, 31, 5, 6, by, 32), a, 99));
            }
        }
    }

    /** "the word with its lowest 12 bits 0; code 23: this and the PC together". */
    private static void uppers() {
        for (int bits : new int[] {0, 1, 0x80000, 0xFFFFF, 0x12345}) {
            LabelledCore core = Asm.core(Asm.upper(1, bits), Asm.upperFromPc(2, bits), Asm.upperFromPc(3, bits));
            core.run(3);
            Check.due("55", (long) bits << 12, core.register(1));
            Check.due("23 at 4", ((long) bits << 12) + 4, core.register(2));
            Check.due("23 at 8", ((long) bits << 12) + 8, core.register(3));
        }
    }

    /** "at the address of register A and I together, into D": also where D is A. */
    private static void loads() {
        LabelledCore core = Asm.core(
            Asm.load(2, 1, 9, 0),
            Asm.load(0, 2, 9, 0), Asm.load(0, 3, 9, 1), Asm.load(0, 4, 9, 2), Asm.load(0, 5, 9, 3),
            Asm.load(4, 12, 9, 0), Asm.load(4, 13, 9, 1), Asm.load(4, 14, 9, 2), Asm.load(4, 15, 9, 3),
            Asm.load(2, 9, 9, 0));
        core.set(9, 4096 + 40, 0);
        core.poke(10, 0x80FF7F01, 0);
        Check.due("all loads", 10, core.run(10));
        Check.due("the word", 0x80FF7F01L, core.register(1));
        int[] bytes = {0x01, 0x7F, 0xFF, 0x80};
        for (int i = 0; i < 4; i++) {
            Check.due("byte " + i + " with its sign", (byte) bytes[i], (int) core.register(2 + i));
            Check.due("byte " + i, bytes[i], core.register(12 + i));
        }
        Check.due("into the register of the address", 0x80FF7F01L, core.register(9));
        Check.due("memory stays", 0x80FF7F01L, core.memory(10));
    }

    /** "F 0 the byte with its sign, F 4 the byte": all 256 bytes in all four places. */
    private static void everyByteIsLoaded() {
        for (int value = 0; value < 256; value++) {
            for (int place = 0; place < 4; place++) {
                LabelledCore core = Asm.core(Asm.load(0, 1, 9, place), Asm.load(4, 2, 9, place));
                core.set(9, 4096, 0);
                core.poke(0, ~(~value << 8 * place & 255 << 8 * place), 0);
                Check.due("both loads", 2, core.run(2));
                int signed = value < 128 ? value : value - 256;
                Check.due("the byte " + value + " with its sign", signed, (int) core.register(1));
                Check.due("the byte " + value, value, core.register(2));
            }
        }
    }

    /** "the lowest byte of register B becomes the byte there": the other bytes stay. */
    private static void stores() {
        LabelledCore core = Asm.core(
            Asm.store(2, 8, 9, 0), Asm.store(0, 7, 9, 4), Asm.store(0, 7, 9, 9), Asm.store(0, 7, 9, 14),
            Asm.store(0, 7, 9, 19));
        core.set(9, 4096, 0);
        core.set(8, 0x89ABCDEF, 0);
        core.set(7, 0xAABBCCDD, 0);
        for (int i = 0; i < 6; i++) {
            core.poke(i, 0x11223344, 0);
        }
        Check.due("all stores", 5, core.run(5));
        Check.due("word", 0x89ABCDEFL, core.memory(0));
        Check.due("byte 0", 0x112233DDL, core.memory(1));
        Check.due("byte 1", 0x1122DD44L, core.memory(2));
        Check.due("byte 2", 0x11DD3344L, core.memory(3));
        Check.due("byte 3", 0xDD223344L, core.memory(4));
        Check.due("the next word stays", 0x11223344L, core.memory(5));
        Check.due("the register stays", 0xAABBCCDDL, core.register(7));
        for (int place = 0; place < 4; place++) {
            LabelledCore full = Asm.core(Asm.store(0, 0, 9, place));
            full.set(9, 4096, 0);
            full.poke(0, -1, 0);
            full.run(1);
            Check.due("all bits of byte " + place, 0xFFFFFFFFL - (255L << 8 * place), full.memory(0));
        }
    }

    /** All addresses about the edges of memory, by numbers with either sign. */
    private static void addresses() {
        int[] offsets = {0, 1, 4, 31, 32, 2047, -1, -4, -32, -33, -2048};
        int[] wanted = {0, 4092, 4095, 4096, 4097, 4098, 4099, 4100, 4347, 4348, 4349, 4351, 4352, 8192, -4, -1};
        for (int offset : offsets) {
            for (int address : wanted) {
                addressed(Asm.load(2, 1, 9, offset), address - offset, address, true);
                addressed(Asm.load(0, 1, 9, offset), address - offset, address, false);
                addressed(Asm.load(4, 1, 9, offset), address - offset, address, false);
                addressed(Asm.store(2, 1, 9, offset), address - offset, address, true);
                addressed(Asm.store(0, 1, 9, offset), address - offset, address, false);
            }
        }
    }

    private static void addressed(int w, int base, int address, boolean whole) {
        LabelledCore core = Asm.core(w);
        core.set(9, base, 0);
        core.set(1, 0x01010101, 0);
        for (int i = 0; i < 64; i++) {
            core.poke(i, 0x40404040 + i * 0x01010101, 0);
        }
        boolean fine = address >= 4096 && address <= 4351 && (!whole || address % 4 == 0);
        Check.due(w + " at " + address, fine ? 1 : 0, core.run(1));
        Check.due(w + " at " + address + ", outcome", fine ? 0 : 5, core.told(0));
        Check.due(w + " at " + address + ", PC", fine ? 4 : 0, core.told(1));
        if (fine) {
            int place = (address - 4096) / 4;
            boolean loads = (w & 127) == 3;
            int number = loads ? (int) core.register(1) : (int) core.memory(place) >>> (address % 4 * 8);
            Check.due(w + " at " + address + " byte", loads ? 0x40 + place : 1, number & 255);
        }
    }

    private static boolean holds(int f, int a, int b) {
        switch (f) {
            case 0:
                return a == b;
            case 1:
                return a != b;
            case 4:
                return (long) a < (long) b;
            case 5:
                return (long) a >= (long) b;
            case 6:
                return Integer.toUnsignedLong(a) < Integer.toUnsignedLong(b);
            default:
                return Integer.toUnsignedLong(a) >= Integer.toUnsignedLong(b);
        }
    }

    /** "F 0 if equal, 1 if not, 4 if less, 5 if not less, 6 and 7 the same without signs". */
    private static void branches() {
        for (int f : new int[] {0, 1, 4, 5, 6, 7}) {
            for (int a : NUMBERS) {
                for (int b : NUMBERS) {
                    LabelledCore core = Asm.core(Asm.branch(f, 6, 7, 16));
                    core.set(6, a, 0);
                    core.set(7, b, 0);
                    Check.due("branch", 1, core.run(1));
                    Check.due("F " + f + " of " + a + " and " + b, holds(f, a, b) ? 16 : 4, core.told(1));
                }
            }
        }
    }

    /** "a number with a sign, bit 12 ... 4 to 1 ..., and 0": every offset from -4096 to 4094. */
    private static void branchOffsets() {
        for (int offset = -4096; offset <= 4094; offset += 2) {
            LabelledCore core = Asm.core(Asm.addI(0, 0, 0), Asm.branch(0, 0, 0, offset));
            Check.due("branch", 2, core.run(2));
            Check.due("branch by " + offset, 4 + offset, core.told(1));
            Check.due("done, wherever it goes", 0, core.told(0));
        }
        LabelledCore still = Asm.core(Asm.branch(0, 0, 0, 0));
        Check.due("a branch by 0", 1000, still.run(1000));
        LabelledCore back = Asm.core(Asm.addI(1, 1, 1), Asm.branch(1, 1, 2, -4), Asm.halt());
        back.set(2, 3, 0);
        Check.due("a loop", 6, back.run(100));
        Check.due("at its end", 8, back.told(1));
    }

    /** The same for CALL: the least, the greatest, those by 0 and 2, each bit by itself and each one missing. */
    private static void calls() {
        called(-1048576);
        called(1048574);
        called(0);
        called(-2);
        for (int bit = 1; bit < 20; bit++) {
            called(1 << bit);
            called(-2 - (1 << bit));
            called(1048574 - (1 << bit));
            called((1 << bit) - 1048576);
        }
    }

    private static void called(int offset) {
        LabelledCore core = Asm.core(Asm.addI(0, 0, 0), Asm.call(9, offset));
        Check.due("call", 2, core.run(2));
        Check.due("call by " + offset, 4 + offset, core.told(1));
        Check.due("the address behind it", 8, core.register(9));
        Check.due("done, wherever it goes", 0, core.told(0));
    }

    /** "the PC becomes register A and I together with its lowest bit 0": odd sums, both signs, sums that wrap. */
    private static void leaps() {
        leapt(100, 0, 100);
        leapt(101, 0, 100);
        leapt(100, 3, 102);
        leapt(0, -1, -2);
        leapt(0, -2048, -2048);
        leapt(-1, 2047, 2046);
        leapt(Integer.MAX_VALUE, 1, Integer.MIN_VALUE);
        leapt(Integer.MIN_VALUE, -1, Integer.MAX_VALUE - 1);
        leapt(-1, 1, 0);
        leapt(1, 0, 0);
        LabelledCore same = Asm.core(Asm.addI(1, 0, 41), Asm.leap(1, 1, 2));
        same.run(2);
        Check.due("D is A: the old one says where", 42, same.told(1));
        Check.due("D is A: and gets the address behind", 8, same.register(1));
        same.run(1);
        Check.due("42 is no multiple of 4", 4, same.told(0));
    }

    private static void leapt(int base, int i, int to) {
        LabelledCore core = Asm.core(Asm.leap(31, 30, i));
        core.set(30, base, 0);
        Check.due("leap", 1, core.run(1));
        Check.due("leap from " + base + " by " + i, to, core.told(1));
        Check.due("the address behind it", 4, core.register(31));
        Check.due("register A stays", Integer.toUnsignedLong(base), core.register(30));
    }

    /** "register A goes out", "the first value that waits, into D". */
    private static void outAndIn() {
        LabelledCore core = Asm.core(Asm.out(0), Asm.in(30), Asm.out(30), Asm.fields(11, 30, 0, 30, 30, 127));
        core.input(-7, 0);
        Check.due("all four", 4, core.run(4));
        Check.due("register 0 goes out", 0, core.output(0));
        Check.due("what came in", Integer.toUnsignedLong(-7), core.output(1));
        Check.due("OUT with other bits", Integer.toUnsignedLong(-7), core.output(2));
        Check.due("which leaves D alone", Integer.toUnsignedLong(-7), core.register(30));
    }

    /** All codes with all F and all G: done, HALT or none. Memory's instructions go to a word in its middle. */
    private static void whichWordsAreInstructions() {
        for (int code = 0; code < 128; code++) {
            for (int f = 0; f < 8; f++) {
                for (int g = 0; g < 128; g++) {
                    int w = Asm.fields(code, 1, f, 9, 2, g);
                    int offset = code == 3 ? w >> 20 : w >> 25 << 5 | 1;
                    LabelledCore core = Asm.core(w);
                    core.set(9, 4096 + 128 - offset, 0);
                    core.input(1, 0);
                    int outcome = outcomeOf(code, f, g);
                    Check.due(w + " is done", outcome == 0 ? 1 : 0, core.run(1));
                    Check.due(w + ", its outcome", outcome, core.told(0));
                }
            }
        }
    }

    private static int outcomeOf(int code, int f, int g) {
        boolean good;
        switch (code) {
            case 51:
                good = g == 0 || g == 32 && (f == 0 || f == 5);
                break;
            case 19:
                good = f != 1 && f != 5 || g == 0 || f == 5 && g == 32;
                break;
            case 55:
            case 23:
            case 111:
                good = true;
                break;
            case 3:
                good = f == 0 || f == 2 || f == 4;
                break;
            case 35:
                good = f == 0 || f == 2;
                break;
            case 99:
                good = f < 2 || f > 3;
                break;
            case 103:
                good = f == 0;
                break;
            case 11:
                if (f == 2) {
                    return 1;
                }
                good = f < 2;
                break;
            default:
                good = false;
        }
        return good ? 0 : 3;
    }
}
