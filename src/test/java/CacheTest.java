/** THE CACHE: what a key is, when it is known, and which one gives way. */
public final class CacheTest {
    public static void main(String[] args) {
        everyPartOfTheKey();
        notAllowedIsNotInstalled();
        for (int entries = 1; entries <= 64; entries++) {
            firstInFirstOut(entries);
        }
        useDoesNotKeepAKey();
        whatIsKnownHasItsLabels();
        labelsOfTheKeyItself();
        nextOfWhatIsKnown();
        smallerOnceItWentRound();
        Check.end();
    }

    private static LabelledCore loop(int w) {
        LabelledCore core = Asm.core(w, Asm.call(0, -4));
        core.set(9, 4096, 0);
        core.poke(0, 0, 96);
        return core;
    }

    private static int missesOfOneMore(LabelledCore core) {
        int before = core.told(4);
        Check.due("one turn", 2, core.run(2));
        return core.told(4) - before;
    }

    private static void everyPartOfTheKey() {
        LabelledCore core = loop(Asm.store(2, 1, 9, 0));
        core.rule(2, 8, 1, 0, 0);
        Check.due("both miss", 2, missesOfOneMore(core));
        Check.due("both are known", 0, missesOfOneMore(core));
        core.set(1, 5, 0);
        core.set(9, 4096, 0);
        Check.due("numbers are no part of it", 0, missesOfOneMore(core));
        core.set(9, 4096, 32);
        Check.due("X is", 1, missesOfOneMore(core));
        core.set(1, 5, 64);
        Check.due("Y is", 1, missesOfOneMore(core));
        core.poke(0, 0, 128);
        Check.due("M is", 1, missesOfOneMore(core));
        core.set(1, 5, 0);
        core.set(9, 4096, 0);
        core.poke(0, 0, 96);
        Check.due("the first one is still known", 0, missesOfOneMore(core));
        Check.due("keys", 5, core.told(5));

        LabelledCore swapped = loop(Asm.add(5, 1, 2));
        swapped.set(1, 0, 4);
        Check.due("X 4 Y 0", 2, missesOfOneMore(swapped));
        swapped.set(1, 0, 0);
        swapped.set(2, 0, 4);
        Check.due("X 0 Y 4 is another key", 1, missesOfOneMore(swapped));

        LabelledCore groups = Asm.core(Asm.upper(1, 1), Asm.upperFromPc(2, 1), Asm.addI(3, 0, 1), Asm.call(0, -12));
        Check.due("a loop of two groups", 8, groups.run(8));
        Check.due("one group, one key", 2, groups.told(4));

        LabelledCore counter = Asm.core(Asm.branch(0, 1, 1, 4), Asm.addI(2, 0, 0), Asm.call(0, -8));
        counter.run(3);
        counter.set(1, 0, 1);
        counter.run(3);
        Check.due("P is a part: all three miss again", 3 + 3, counter.told(4));
    }

    private static void notAllowedIsNotInstalled() {
        LabelledCore core = Asm.core(Asm.addI(5, 0, 0), Asm.out(1));
        core.rule(7, 3, 1, 2, 0);
        core.set(1, 1, 1);
        Check.due("one is done", 1, core.run(5));
        Check.due("one is not allowed", 2, core.told(0));
        Check.due("two misses", 2, core.told(4));
        Check.due("one key", 1, core.told(5));
    }

    /** Register 1's label makes the key of an OUT; a CALL is never seen as the program is straight. */
    private static void firstInFirstOut(int entries) {
        LabelledCore core = new LabelledCore();
        for (int i = 0; i < 256; i++) {
            core.word(Asm.addI(2, 1, 0));
        }
        core.cache(entries);
        int calls = 0;
        for (int key = 0; key <= entries; key++) {
            core.set(1, 0, key);
            core.run(1);
            calls++;
            Check.due("misses", calls, core.told(4));
            Check.due("known", Math.min(calls, entries), core.told(5));
        }
        for (int key = entries; key >= 1; key--) {
            core.set(1, 0, key);
            core.run(1);
        }
        Check.due("the last " + entries + " are known", calls, core.told(4));
        core.set(1, 0, 0);
        core.run(1);
        Check.due("the first one gave way", calls + 1, core.told(4));
        core.set(1, 0, 1);
        core.run(1);
        Check.due("now the second one did", calls + 2, core.told(4));
        Check.due("known", entries, core.told(5));
    }

    private static void useDoesNotKeepAKey() {
        LabelledCore core = new LabelledCore();
        for (int i = 0; i < 16; i++) {
            core.word(Asm.addI(2, 1, 0));
        }
        core.cache(3);
        int[] labels = {1, 2, 3, 1, 4, 1, 2, 3, 4, 1};
        int[] misses = {1, 2, 3, 3, 4, 5, 6, 7, 8, 9};
        for (int i = 0; i < labels.length; i++) {
            core.set(1, 0, labels[i]);
            core.run(1);
            Check.due("step " + i, misses[i], core.told(4));
        }
    }

    private static void whatIsKnownHasItsLabels() {
        LabelledCore core = Asm.core(Asm.addI(2, 1, 0), Asm.out(2), Asm.call(0, -8));
        for (int i = 0; i < 60; i++) {
            core.set(1, i, i % 7);
            Check.due("one turn", 3, core.run(3));
            Check.due("turn " + i, Check.pair(i, i % 7), core.output(i));
        }
        Check.due("two keys for each label and one for the CALL", 15, core.told(4));
    }

    /** Keys that have P, Y or M alone, each seen twice: the second time they are known by these labels. */
    private static void labelsOfTheKeyItself() {
        LabelledCore withY = loop(Asm.add(5, 0, 2));
        withY.set(2, 0, 4);
        Check.due("Y 4", 2, missesOfOneMore(withY));
        Check.due("Y 4 again", 0, missesOfOneMore(withY));
        withY.set(2, 0, 0);
        Check.due("Y 0", 1, missesOfOneMore(withY));

        LabelledCore withM = loop(Asm.load(2, 5, 9, 0));
        Check.due("M 96", 2, missesOfOneMore(withM));
        Check.due("M 96 again", 0, missesOfOneMore(withM));
        withM.poke(0, 0, 0);
        Check.due("M 0", 1, missesOfOneMore(withM));

        LabelledCore withP = Asm.core(Asm.branch(0, 1, 1, 4), Asm.addI(2, 0, 0), Asm.call(0, -4));
        withP.set(1, 0, 16);
        Check.due("P 16 behind the branch", 9, withP.run(9));
        Check.due("known with P 16", 3, withP.told(4));
    }

    /** A LEAP known twice gives the PC its own label back, not that of what came between. */
    private static void nextOfWhatIsKnown() {
        LabelledCore core = Asm.core(Asm.addI(2, 0, 0), Asm.leap(0, 1, 0));
        core.rule(0, 0, 0, 0, 0);
        core.rule(6, 0, 2, 0, 0);
        core.set(1, 0, 32);
        for (int turn = 0; turn < 5; turn++) {
            core.run(1);
            Check.due("NEXT of WORK is nothing", 0, core.told(2));
            core.run(1);
            Check.due("NEXT of LEAP is X", 32, core.told(2));
        }
        Check.due("WORK with P 0 and 32, and LEAP", 3, core.told(4));
    }

    private static void smallerOnceItWentRound() {
        LabelledCore core = new LabelledCore();
        for (int i = 0; i < 64; i++) {
            core.word(Asm.addI(2, 1, 0));
        }
        for (int key = 0; key < 26; key++) {
            core.set(1, 0, key);
            core.run(1);
        }
        core.cache(2);
        for (int key = 100; key < 103; key++) {
            core.set(1, 0, key);
            core.run(1);
        }
        Check.due("misses", 29, core.told(4));
        Check.due("known", 2, core.told(5));
        core.set(1, 0, 101);
        core.run(1);
        core.set(1, 0, 102);
        core.run(1);
        Check.due("the last two are known", 29, core.told(4));
        core.set(1, 0, 100);
        core.run(1);
        Check.due("the first is not", 30, core.told(4));
    }
}
