/** THE CACHE: what a key is, when it is known, and which one gives way. */
public final class CacheTest {
    public static void main(String[] args) {
        everyPartOfTheKey();
        sixteenAtFirst();
        asManyAsThereAreEntries();
        notAllowedTakesNoPlace();
        otherCallsLeaveTheKeys();
        useDoesNotKeepAKey();
        whatIsKnownHasItsLabels();
        labelsOfTheKeyItself();
        nextOfWhatIsKnown();
        smallerOnceItWentRound();
        Check.end();
    }

    private static LabelledCore loop(int w) {
        LabelledCore core = Asm.core(w, Asm.call(0, -4));
        core.set(9, 4096, 0);
        core.poke(0, 0, 96);
        return core;
    }

    private static int missesOfOneMore(LabelledCore core) {
        int before = core.told(4);
        Check.due("one turn", 2, core.run(2));
        return core.told(4) - before;
    }

    /** "The KEY of an instruction are its group and its four labels". */
    private static void everyPartOfTheKey() {
        LabelledCore core = loop(Asm.store(2, 1, 9, 0));
        core.rule(2, 8, 1, 0, 0);
        Check.due("both miss", 2, missesOfOneMore(core));
        Check.due("both are known", 0, missesOfOneMore(core));
        core.set(1, 5, 0);
        core.set(9, 4096, 0);
        Check.due("numbers are no part of it", 0, missesOfOneMore(core));
        core.set(9, 4096, 32);
        Check.due("X is", 1, missesOfOneMore(core));
        core.set(1, 5, 64);
        Check.due("Y is", 1, missesOfOneMore(core));
        core.poke(0, 0, 128);
        Check.due("M is", 1, missesOfOneMore(core));
        core.set(1, 5, 0);
        core.set(9, 4096, 0);
        core.poke(0, 0, 96);
        Check.due("the first one is still known", 0, missesOfOneMore(core));
        Check.due("keys", 5, core.told(5));

        LabelledCore swapped = loop(Asm.add(5, 1, 2));
        swapped.set(1, 0, 4);
        Check.due("X 4 Y 0", 2, missesOfOneMore(swapped));
        swapped.set(1, 0, 0);
        swapped.set(2, 0, 4);
        Check.due("X 0 Y 4 is another key", 1, missesOfOneMore(swapped));

        LabelledCore groups = Asm.core(Asm.upper(1, 1), Asm.upperFromPc(2, 1), Asm.addI(3, 0, 1), Asm.call(0, -12));
        Check.due("a loop of two groups", 8, groups.run(8));
        Check.due("one group, one key", 2, groups.told(4));

        LabelledCore counter = Asm.core(Asm.branch(0, 1, 1, 4), Asm.addI(2, 0, 0), Asm.call(0, -8));
        counter.run(3);
        counter.set(1, 0, 1);
        counter.run(3);
        Check.due("P is a part: all three miss again", 3 + 3, counter.told(4));
    }

    /** Words that make a key of register 1's label; the program is straight, so that no CALL takes an entry. */
    private static LabelledCore straight(int words) {
        LabelledCore core = new LabelledCore();
        for (int i = 0; i < words; i++) {
            core.word(Asm.addI(2, 1, 0));
        }
        return core;
    }

    private static void step(LabelledCore core, int key) {
        core.set(1, 0, key);
        Check.due("the step with the label " + key, 1, core.run(1));
    }

    private static void firstInFirstOut(LabelledCore core, int entries) {
        for (int key = 0; key < entries; key++) {
            step(core, key);
        }
        Check.due("each was a miss", entries, core.told(4));
        Check.due("all are known", entries, core.told(5));
        step(core, entries);
        Check.due("one key more", entries + 1, core.told(4));
        Check.due("as many are known", entries, core.told(5));
        for (int key = entries; key >= 1; key--) {
            step(core, key);
        }
        Check.due("the last " + entries + " are known", entries + 1, core.told(4));
        step(core, 0);
        Check.due("the first one gave way", entries + 2, core.told(4));
        step(core, 1);
        Check.due("now the second one did", entries + 3, core.told(4));
        step(core, 0);
        boolean two = entries > 1;
        Check.due("the one before it", entries + (two ? 3 : 4), core.told(4));
        Check.due("known", entries, core.told(5));
    }

    /** "THE CACHE has 16 entries at first". */
    private static void sixteenAtFirst() {
        firstInFirstOut(straight(40), 16);
    }

    /** "among the last keys that were installed, as many as there are entries": 1 to 64. */
    private static void asManyAsThereAreEntries() {
        for (int entries = 1; entries <= 64; entries++) {
            LabelledCore core = straight(2 * entries + 4);
            core.cache(entries);
            firstInFirstOut(core, entries);
        }
    }

    /** "installed if it is allowed": what is not allowed takes no place, with room and without. */
    private static void notAllowedTakesNoPlace() {
        for (int entries = 1; entries <= 3; entries++) {
            LabelledCore core = Asm.core(Asm.addI(5, 0, 0), Asm.call(5, 4), Asm.out(1));
            core.cache(entries);
            core.rule(7, 3, 1, 2, 0);
            core.set(1, 1, 1);
            Check.due("two are done", 2, core.run(5));
            Check.due("one is not allowed", 2, core.told(0));
            Check.due("three misses", 3, core.told(4));
            Check.due("keys in " + entries + " entries", Math.min(2, entries), core.told(5));
        }
    }

    /** Keys go by begin(), clear(), rule() and cache() alone. */
    private static void otherCallsLeaveTheKeys() {
        LabelledCore core = loop(Asm.in(1));
        core.input(1, 0);
        core.input(2, 0);
        Check.due("both miss", 2, missesOfOneMore(core));
        core.word(Asm.halt());
        core.set(9, 1, 1);
        core.poke(63, 1, 1);
        core.input(3, 0);
        core.run(0);
        Seen.of(core);
        Check.due("both are known", 2, core.told(5));
        Check.due("and no miss", 0, missesOfOneMore(core));
    }

    /** "the last keys that were installed": a key that is used again is not installed again. */
    private static void useDoesNotKeepAKey() {
        LabelledCore core = straight(10);
        core.cache(3);
        int[] labels = {1, 2, 3, 1, 4, 1, 2, 3, 4, 1};
        int[] misses = {1, 2, 3, 3, 4, 5, 6, 7, 8, 9};
        for (int i = 0; i < labels.length; i++) {
            step(core, labels[i]);
            Check.due("step " + i, misses[i], core.told(4));
        }
    }

    /** A known key gives the labels that were worked out for it, not those of another one. */
    private static void whatIsKnownHasItsLabels() {
        LabelledCore core = Asm.core(Asm.addI(2, 1, 0), Asm.out(2), Asm.call(0, -8));
        for (int i = 0; i < 60; i++) {
            core.set(1, i, i % 7);
            Check.due("one turn", 3, core.run(3));
            Check.due("turn " + i, Check.pair(i, i % 7), core.output(i));
        }
        Check.due("two keys for each label and one for the CALL", 15, core.told(4));
    }

    /** Keys that have P, Y or M alone, each seen twice: the second time they are known by these labels. */
    private static void labelsOfTheKeyItself() {
        LabelledCore withY = loop(Asm.add(5, 0, 2));
        withY.set(2, 0, 4);
        Check.due("Y 4", 2, missesOfOneMore(withY));
        Check.due("Y 4 again", 0, missesOfOneMore(withY));
        withY.set(2, 0, 0);
        Check.due("Y 0", 1, missesOfOneMore(withY));

        LabelledCore withM = loop(Asm.load(2, 5, 9, 0));
        Check.due("M 96", 2, missesOfOneMore(withM));
        Check.due("M 96 again", 0, missesOfOneMore(withM));
        withM.poke(0, 0, 0);
        Check.due("M 0", 1, missesOfOneMore(withM));

        LabelledCore withP = Asm.core(Asm.branch(0, 1, 1, 4), Asm.addI(2, 0, 0), Asm.call(0, -4));
        withP.set(1, 0, 16);
        Check.due("P 16 behind the branch", 9, withP.run(9));
        Check.due("known with P 16", 3, withP.told(4));
    }

    /** A LEAP known twice gives the PC its own label back, not that of what came between. */
    private static void nextOfWhatIsKnown() {
        LabelledCore core = Asm.core(Asm.addI(2, 0, 0), Asm.leap(0, 1, 0));
        core.rule(0, 0, 0, 0, 0);
        core.rule(6, 0, 2, 0, 0);
        core.set(1, 0, 32);
        for (int turn = 0; turn < 5; turn++) {
            core.run(1);
            Check.due("NEXT of WORK is nothing", 0, core.told(2));
            core.run(1);
            Check.due("NEXT of LEAP is X", 32, core.told(2));
        }
        Check.due("WORK with P 0 and 32, and LEAP", 3, core.told(4));
    }

    /** "as many as there are entries": fewer than before, once the oldest keys had given way. */
    private static void smallerOnceItWentRound() {
        LabelledCore core = straight(64);
        for (int key = 0; key < 26; key++) {
            step(core, key);
        }
        core.cache(2);
        for (int key = 100; key < 103; key++) {
            step(core, key);
        }
        Check.due("misses", 29, core.told(4));
        Check.due("known", 2, core.told(5));
        step(core, 101);
        step(core, 102);
        Check.due("the last two are known", 29, core.told(4));
        step(core, 100);
        Check.due("the first is not", 30, core.told(4));
    }
}
