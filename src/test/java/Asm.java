/** Makes the words of instructions; each field stands where the document's INSTRUCTIONS put it. */
final class Asm {
    private Asm() {
    }

    static int fields(int code, int d, int f, int a, int b, int g) {
        return code | d << 7 | f << 12 | a << 15 | b << 20 | g << 25;
    }

    static int withI(int code, int d, int f, int a, int i) {
        return code | d << 7 | f << 12 | a << 15 | i << 20;
    }

    /** Code 51. */
    static int work(int f, int g, int d, int a, int b) {
        return fields(51, d, f, a, b, g);
    }

    /** Code 19. */
    static int workI(int f, int d, int a, int i) {
        return withI(19, d, f, a, i);
    }

    static int add(int d, int a, int b) {
        return work(0, 0, d, a, b);
    }

    static int addI(int d, int a, int i) {
        return workI(0, d, a, i);
    }

    static int upper(int d, int bits) {
        return 55 | d << 7 | bits << 12;
    }

    static int upperFromPc(int d, int bits) {
        return 23 | d << 7 | bits << 12;
    }

    static int load(int f, int d, int a, int i) {
        return withI(3, d, f, a, i);
    }

    static int store(int f, int b, int a, int i) {
        return fields(35, i & 31, f, a, b, i >> 5 & 127);
    }

    static int branch(int f, int a, int b, int offset) {
        int d = (offset >> 1 & 15) << 1 | offset >> 11 & 1;
        int g = (offset >> 12 & 1) << 6 | offset >> 5 & 63;
        return fields(99, d, f, a, b, g);
    }

    static int call(int d, int offset) {
        int bits = (offset >> 20 & 1) << 31 | (offset >> 1 & 1023) << 21
            | (offset >> 11 & 1) << 20 | (offset >> 12 & 255) << 12;
        return 111 | d << 7 | bits;
    }

    static int leap(int d, int a, int i) {
        return withI(103, d, 0, a, i);
    }

    static int out(int a) {
        return fields(11, 0, 0, a, 0, 0);
    }

    static int in(int d) {
        return fields(11, d, 1, 0, 0, 0);
    }

    static int halt() {
        return fields(11, 0, 2, 0, 0, 0);
    }

    /** A new object with this program. */
    static LabelledCore core(int... program) {
        LabelledCore core = new LabelledCore();
        for (int w : program) {
            core.word(w);
        }
        return core;
    }
}
