/** Promises 1 to 14 at their boundaries: above each method stands the sentence of the document that it holds to. */
public final class PromiseBoundaryTest {
    /** Outside of every range that the document names. */
    private static final int[] FAR_OFF = {Integer.MIN_VALUE, -1, 4096, Integer.MAX_VALUE};
    private static final int[] PATTERNS = {
        0, 1, -1, Integer.MIN_VALUE, Integer.MAX_VALUE, 0x55555555, 0xAAAAAAAA
    };

    public static void main(String[] args) {
        newObjectHasNothing();
        newObjectSharesNothing();
        wordAnswersHowMany();
        wordAnswersNoneWhenFull();
        clearAnswersHowMany();
        clearIsAsBehindBegin();
        clearLeavesNoOldWord();
        beginFromEveryOutcome();
        beginEmptiesWhatIsFull();
        beginForgetsKeys();
        ruleTakesTheOutermost();
        ruleRefusesWhatIsBeyond();
        ruleForgetsKeys();
        cacheTakesTheOutermost();
        cacheRefusesWhatIsBeyond();
        cacheForgetsKeys();
        setAtTheEdges();
        pokeAtTheEdges();
        inputAnswersHowMany();
        inputGoesRound();
        runAtTheEdges();
        runEndsWhereNothingIsDone();
        registerAtTheEdges();
        memoryAtTheEdges();
        outputAtTheEdges();
        toldAtTheEdges();
        toldAtItsMost();
        toldEightStaysZero();
        Check.end();
    }

    /** Goes round for ever: OUT of register 1, and a CALL back to it. */
    private static LabelledCore outLoop() {
        return Asm.core(Asm.out(1), Asm.call(0, -4));
    }

    /** An object that has come to this outcome, which is 1 to 5, with a label on register 1. */
    private static LabelledCore ended(int outcome) {
        int[] last = {0, Asm.halt(), Asm.out(1), 0, Asm.upper(2, 1), Asm.load(2, 1, 0, 0)};
        LabelledCore core = Asm.core(last[outcome]);
        core.rule(7, 3, 1, 2, 0);
        core.set(1, 5, 6);
        core.poke(63, 7, 8);
        core.input(9, 10);
        Check.due("done before the outcome " + outcome, outcome == 4 ? 1 : 0, core.run(9));
        Check.due("the outcome " + outcome, outcome, core.told(0));
        return core;
    }

    /** Promise 1: "No program; as behind begin()". */
    private static void newObjectHasNothing() {
        LabelledCore core = new LabelledCore();
        Seen.dueAnew("a new object", core);
        core.begin();
        Seen.dueAnew("begin() on a new object", core);
        Check.due("a new object has no word", 0, core.clear());
        LabelledCore run = new LabelledCore();
        Check.due("a new object has nothing to run", 0, run.run(1));
        Check.due("for no word stands at 0", 4, run.told(0));
    }

    /** Promise 1: "the rules and the cache as they are at first", whatever other objects were given. */
    private static void newObjectSharesNothing() {
        LabelledCore other = outLoop();
        for (int group = 0; group <= 8; group++) {
            other.rule(group, 0, 0, 15, 0);
        }
        other.cache(1);
        other.set(1, 2, 3);
        other.poke(0, 4, 5);
        other.input(6, 7);
        LabelledCore core = new LabelledCore();
        Seen.dueAnew("a new object beside another one", core);
        Check.due("its entries", 16, core.cache(16));
        Check.due("its first word", 1, core.word(0));
        PromiseTest.firstRules();
    }

    /** Promise 2: "Answers how many it has", from the first one to the 256th, whatever the words are. */
    private static void wordAnswersHowMany() {
        LabelledCore core = new LabelledCore();
        for (int i = 1; i <= 256; i++) {
            Check.due("word " + i, i, core.word(PATTERNS[i % PATTERNS.length]));
        }
        Check.due("all of them", 256, core.clear());
    }

    /** Promise 2: "NONE when it has 256". */
    private static void wordAnswersNoneWhenFull() {
        LabelledCore core = new LabelledCore();
        for (int i = 0; i < 255; i++) {
            core.word(Asm.addI(1, 1, 1));
        }
        Check.due("the 256th word", 256, core.word(Asm.halt()));
        Check.due("the 257th", LabelledCore.NONE, core.word(Asm.addI(1, 1, 1)));
        Check.due("the 257th again", -1, core.word(0));
        Check.due("the 255 before the last are done", 255, core.run(1000));
        Check.due("the last one stayed", 1, core.told(0));
        Check.due("at 1020", 1020, core.told(1));
        core.begin();
        Check.due("begin() makes no room", -1, core.word(0));
        Check.due("clear() does", 256, core.clear());
        Check.due("for a first word", 1, core.word(Asm.addI(1, 1, 7)));
        Check.due("which is done", 1, core.run(2));
        Check.due("register 1", 7, core.register(1));
    }

    /** Promise 3: "Answers how many words it had", which may be none, one or 256. */
    private static void clearAnswersHowMany() {
        LabelledCore core = new LabelledCore();
        Check.due("clear() without a program", 0, core.clear());
        Check.due("clear() without a program again", 0, core.clear());
        core.word(0);
        Check.due("clear() of one word", 1, core.clear());
        Check.due("clear() behind it", 0, core.clear());
        for (int i = 0; i < 256; i++) {
            core.word(0);
        }
        Check.due("clear() of a full program", 256, core.clear());
        Check.due("clear() behind that", 0, core.clear());
    }

    /** Promise 3: "There is no program then, and all is as behind begin()". */
    private static void clearIsAsBehindBegin() {
        for (int outcome = 1; outcome <= 5; outcome++) {
            LabelledCore core = ended(outcome);
            Check.due("clear() behind the outcome " + outcome, 1, core.clear());
            Seen.dueAnew("clear() behind the outcome " + outcome, core);
            Check.due("nothing runs", 0, core.run(1));
            Check.due("for there is no program", 4, core.told(0));
            Check.due("a word comes first again", 1, core.word(Asm.halt()));
            core.begin();
            core.run(1);
            Check.due("and runs", 1, core.told(0));
        }
    }

    /** Promise 3: "There is no program then": words behind the new ones are none either. */
    private static void clearLeavesNoOldWord() {
        LabelledCore core = Asm.core(Asm.addI(1, 1, 1), Asm.addI(1, 1, 1), Asm.addI(1, 1, 1));
        core.clear();
        core.word(Asm.addI(1, 1, 1));
        Check.due("only the new word", 1, core.run(9));
        Check.due("no word stands behind it", 4, core.told(0));
        Check.due("register 1", 1, core.register(1));
    }

    /** Promise 4: "the outcome 0, the PC, registers, memory and all labels 0". */
    private static void beginFromEveryOutcome() {
        for (int outcome = 1; outcome <= 5; outcome++) {
            LabelledCore core = ended(outcome);
            core.begin();
            Seen.dueAnew("begin() behind the outcome " + outcome, core);
            core.begin();
            Seen.dueAnew("begin() twice", core);
            core.set(1, 5, 6);
            Check.due("it comes there again", outcome == 4 ? 1 : 0, core.run(9));
            Check.due("to the outcome " + outcome, outcome, core.told(0));
            Check.due("the program stays", 1, core.clear());
        }
    }

    /** Promise 4: "nothing waits or went out ..., no instructions were done": also when all is full. */
    private static void beginEmptiesWhatIsFull() {
        LabelledCore core = outLoop();
        fillAndLookThatItIsFull(core);
        core.begin();
        Seen.dueAnew("begin() when all is full", core);
        fillAndLookThatItIsFull(core);
        core.clear();
        Seen.dueAnew("clear() when all is full", core);
    }

    private static void fillAndLookThatItIsFull(LabelledCore core) {
        core.set(1, 3, 4);
        for (int i = 1; i <= 64; i++) {
            Check.due("input " + i, i, core.input(i, i));
        }
        Check.due("one too many", -1, core.input(0, 0));
        Check.due("256 OUTs and the CALLs behind them", 512, core.run(1000));
        Check.due("256 went out", 256, core.told(6));
        Check.due("the last one", Check.pair(3, 4), core.output(255));
    }

    /** Promise 4: "no key is known, ... no misses". */
    private static void beginForgetsKeys() {
        LabelledCore core = outLoop();
        for (int turn = 0; turn < 3; turn++) {
            core.run(10);
            Check.due("both miss once", 2, core.told(4));
            Check.due("both are known", 2, core.told(5));
            core.begin();
            Check.due("no misses behind begin()", 0, core.told(4));
            Check.due("no key behind begin()", 0, core.told(5));
        }
    }

    /** Promise 5: "A group gets a rule": group 0 to 8, each mask 0 to 15. */
    private static void ruleTakesTheOutermost() {
        for (int group = 0; group <= 8; group++) {
            LabelledCore core = new LabelledCore();
            core.rule(group, 0, 0, 0, 0);
            core.rule(group, 15, 15, 15, 15);
            core.rule(group, 15, 0, 15, 0);
            core.rule(group, 0, 15, 0, 15);
        }
        LabelledCore first = PromiseTest.coreWithLabels(Asm.add(5, 1, 2), 1, 2, 4, 0);
        first.rule(0, 15, 15, 15, 15);
        Check.due("all masks 15", 1, first.run(1));
        Check.due("RESULT 15", Check.pair(4105, 7), first.register(5));
        Check.due("NEXT 15", 7, first.told(2));
        LabelledCore last = PromiseTest.coreWithLabels(Asm.in(5), 1, 2, 4, 8);
        last.rule(8, 0, 0, 0, 0);
        Check.due("all masks 0", 1, last.run(1));
        Check.due("RESULT 0", 78, last.register(5));
        Check.due("NEXT 0", 0, last.told(2));
    }

    /** Promise 5: "IllegalArgumentException: group is not 0 to 8, or a mask not 0 to 15". */
    private static void ruleRefusesWhatIsBeyond() {
        LabelledCore core = new LabelledCore();
        Check.illegal("group 9", () -> core.rule(9, 0, 0, 0, 0));
        Check.illegal("mask 16, RESULT", () -> core.rule(0, 16, 0, 0, 0));
        Check.illegal("mask 16, NEXT", () -> core.rule(0, 0, 16, 0, 0));
        Check.illegal("mask 16, LEFT", () -> core.rule(8, 0, 0, 16, 0));
        Check.illegal("mask 16, RIGHT", () -> core.rule(8, 0, 0, 0, 16));
        for (int wrong : FAR_OFF) {
            Check.illegal("group " + wrong, () -> core.rule(wrong, 0, 0, 0, 0));
            Check.illegal("RESULT " + wrong, () -> core.rule(0, wrong, 0, 0, 0));
            Check.illegal("NEXT " + wrong, () -> core.rule(0, 0, wrong, 0, 0));
            Check.illegal("LEFT " + wrong, () -> core.rule(8, 0, 0, wrong, 0));
            Check.illegal("RIGHT " + wrong, () -> core.rule(8, 0, 0, 0, wrong));
            Check.illegal("all " + wrong, () -> core.rule(wrong, wrong, wrong, wrong, wrong));
        }
    }

    /** Promise 5: "no key is known then": also by the rule that it has, and by the rule of a group that never ran. */
    private static void ruleForgetsKeys() {
        LabelledCore core = outLoop();
        for (int group = 0; group <= 8; group++) {
            core.run(2);
            Check.due("both are known", 2, core.told(5));
            int[] first = PromiseTest.firstRule(group);
            core.rule(group, first[0], first[1], first[2], first[3]);
            Check.due("no key behind the rule of group " + group, 0, core.told(5));
            Check.due("the misses stay", 2 * (group + 1), core.told(4));
        }
        core.rule(0, 0, 0, 0, 0);
        Check.due("no key when none was known", 0, core.told(5));
    }

    /** Promise 6: "The cache has so many entries ... Answers how many it had": 1 to 64, and 16 before. */
    private static void cacheTakesTheOutermost() {
        LabelledCore core = new LabelledCore();
        int had = 16;
        for (int entries = 1; entries <= 64; entries++) {
            Check.due("cache(" + entries + ")", had, core.cache(entries));
            had = entries;
        }
        Check.due("from 64 to 1", 64, core.cache(1));
        Check.due("1 again", 1, core.cache(1));
        Check.due("from 1 to 64", 1, core.cache(64));
        core.begin();
        Check.due("begin() leaves them", 64, core.cache(2));
        core.clear();
        Check.due("clear() leaves them", 2, core.cache(16));
    }

    /** Promise 6: "IllegalArgumentException: entries is not 1 to 64". */
    private static void cacheRefusesWhatIsBeyond() {
        LabelledCore core = new LabelledCore();
        Check.illegal("cache(0)", () -> core.cache(0));
        Check.illegal("cache(65)", () -> core.cache(65));
        for (int wrong : FAR_OFF) {
            Check.illegal("cache(" + wrong + ")", () -> core.cache(wrong));
        }
        Check.due("it has as many as before", 16, core.cache(1));
    }

    /** Promise 6: "no key is known then": with fewer, as many or more entries. */
    private static void cacheForgetsKeys() {
        LabelledCore core = outLoop();
        int misses = 0;
        for (int entries : new int[] {16, 2, 2, 3, 64, 64, 16}) {
            core.run(4);
            misses += 2;
            Check.due("both are known", 2, core.told(5));
            core.cache(entries);
            Check.due("no key behind cache(" + entries + ")", 0, core.told(5));
            Check.due("the misses stay", misses, core.told(4));
        }
    }

    /** Promise 7: "IllegalArgumentException: register is not 1 to 31". */
    private static void setAtTheEdges() {
        LabelledCore core = new LabelledCore();
        for (int v : PATTERNS) {
            core.set(1, v, ~v);
            core.set(31, ~v, v);
            Check.due("register 1", Check.pair(v, ~v), core.register(1));
            Check.due("register 31", Check.pair(~v, v), core.register(31));
        }
        Check.due("register 2 stays", 0, core.register(2));
        Check.due("register 30 stays", 0, core.register(30));
        Check.illegal("set(0, ..)", () -> core.set(0, 1, 1));
        Check.illegal("set(0, ..) to what it has", () -> core.set(0, 0, 0));
        Check.illegal("set(32, ..)", () -> core.set(32, 1, 1));
        for (int wrong : FAR_OFF) {
            Check.illegal("set(" + wrong + ", ..)", () -> core.set(wrong, 1, 1));
        }
        Check.due("register 0 stays 0", 0, core.register(0));
    }

    /** Promise 8: "IllegalArgumentException: i is not 0 to 63". */
    private static void pokeAtTheEdges() {
        LabelledCore core = new LabelledCore();
        for (int v : PATTERNS) {
            core.poke(0, v, ~v);
            core.poke(63, ~v, v);
            Check.due("word 0", Check.pair(v, ~v), core.memory(0));
            Check.due("word 63", Check.pair(~v, v), core.memory(63));
        }
        Check.due("word 1 stays", 0, core.memory(1));
        Check.due("word 62 stays", 0, core.memory(62));
        Check.illegal("poke(64, ..)", () -> core.poke(64, 1, 1));
        for (int wrong : FAR_OFF) {
            Check.illegal("poke(" + wrong + ", ..)", () -> core.poke(wrong, 1, 1));
        }
    }

    /** Promise 9: "Answers how many wait; NONE when there are 64 already". */
    private static void inputAnswersHowMany() {
        LabelledCore core = Asm.core(Asm.in(1), Asm.in(2), Asm.halt());
        for (int i = 1; i <= 63; i++) {
            Check.due("input " + i, i, core.input(i, -i));
        }
        Check.due("input 64", 64, core.input(Integer.MIN_VALUE, Integer.MIN_VALUE));
        Check.due("input 65", LabelledCore.NONE, core.input(65, 65));
        Check.due("input 65 again", -1, core.input(65, 65));
        Check.due("64 wait", 64, core.told(7));
        Check.due("two are taken", 2, core.run(9));
        Check.due("with an outcome a value comes in too", 63, core.input(66, 66));
        Check.due("and one more", 64, core.input(67, 67));
        Check.due("and no other", -1, core.input(68, 68));
        Check.due("the first one", Check.pair(1, -1), core.register(1));
        Check.due("the second one", Check.pair(2, -2), core.register(2));
    }

    /** Promise 9: "A value comes in with its label, behind those that wait": also when 64 places were used up. */
    private static void inputGoesRound() {
        LabelledCore core = Asm.core(Asm.in(1), Asm.out(1), Asm.call(0, -8));
        int came = 0;
        int wait = 0;
        for (int take : new int[] {40, 50, 64, 1}) {
            while (wait < 64) {
                wait++;
                Check.due("input", wait, core.input(came, PATTERNS[came % PATTERNS.length]));
                came++;
            }
            Check.due("it is full", -1, core.input(-1, -1));
            Check.due("some are taken", 3 * take, core.run(3 * take));
            wait -= take;
            Check.due("the others wait", wait, core.told(7));
        }
        Check.due("all that were taken", 40 + 50 + 64 + 1, core.told(6));
        for (int i = 0; i < 40 + 50 + 64 + 1; i++) {
            long due = Check.pair(i, PATTERNS[i % PATTERNS.length]);
            Check.due("value " + i, due, core.output(i));
        }
    }

    /** Promise 10: "Does up to times steps ... IllegalArgumentException: times is not 0 to 1000". */
    private static void runAtTheEdges() {
        LabelledCore core = Asm.core(Asm.addI(1, 1, 1), Asm.call(0, -4));
        Check.due("run(0)", 0, core.run(0));
        Check.due("run(0) leaves the PC", 0, core.told(1));
        Check.due("run(0) misses nothing", 0, core.told(4));
        Check.due("run(1)", 1, core.run(1));
        Check.due("run(999)", 999, core.run(999));
        Check.due("run(1000)", 1000, core.run(1000));
        Check.due("all were done", 2000, core.told(3));
        Check.illegal("run(1001)", () -> core.run(1001));
        for (int wrong : FAR_OFF) {
            Check.illegal("run(" + wrong + ")", () -> core.run(wrong));
        }
        Check.due("no more were done", 2000, core.told(3));
        for (int w : new int[] {0, Asm.halt(), Asm.load(2, 1, 0, 0)}) {
            LabelledCore bad = Asm.core(w);
            Check.due("run(0)", 0, bad.run(0));
            Check.due("run(0) takes no step", 0, bad.told(0));
        }
    }

    /** Promise 10: "as long as instructions are done. Answers how many were". */
    private static void runEndsWhereNothingIsDone() {
        int[] three = {Asm.addI(1, 1, 1), Asm.addI(1, 1, 1), Asm.addI(1, 1, 1)};
        LabelledCore just = Asm.core(three);
        Check.due("as many as there are", 3, just.run(3));
        Check.due("the step behind them is not taken", 0, just.told(0));
        Check.due("one step more", 0, just.run(1));
        Check.due("is the one that ends it", 4, just.told(0));
        LabelledCore over = Asm.core(three);
        Check.due("one more than there are", 3, over.run(4));
        Check.due("and that one is taken", 4, over.told(0));
        for (int outcome = 1; outcome <= 5; outcome++) {
            LabelledCore core = ended(outcome);
            long[] before = Seen.of(core);
            Check.due("nothing is done behind the outcome " + outcome, 0, core.run(1000));
            Seen.due("run() behind the outcome " + outcome, before, core);
        }
        LabelledCore waits = Asm.core(Asm.addI(1, 1, 1), Asm.in(2), Asm.addI(1, 1, 1));
        Check.due("up to the IN", 1, waits.run(1000));
        Check.due("it may go on", 0, waits.told(0));
        Check.due("a value", 1, waits.input(5, 0));
        Check.due("the IN and the one behind it", 2, waits.run(1000));
    }

    /** Promise 11: "its label times 2 to the 32, and the 32 bits of its number ... register is not 0 to 31". */
    private static void registerAtTheEdges() {
        LabelledCore core = new LabelledCore();
        core.set(1, -1, 0);
        Check.due("number -1 and label 0", 4294967295L, core.register(1));
        core.set(1, 0, 1);
        Check.due("number 0 and label 1", 4294967296L, core.register(1));
        core.set(1, Integer.MIN_VALUE, Integer.MAX_VALUE);
        Check.due("the highest bit of the number", 9223372034707292160L, core.register(1));
        core.set(31, 0, Integer.MIN_VALUE);
        Check.due("the highest bit of the label", Long.MIN_VALUE, core.register(31));
        core.set(31, -1, -1);
        Check.due("all bits", -1L, core.register(31));
        Check.due("register 0", 0, core.register(0));
        Check.illegal("register(32)", () -> core.register(32));
        for (int wrong : FAR_OFF) {
            Check.illegal("register(" + wrong + ")", () -> core.register(wrong));
        }
    }

    /** Promise 12: "as with register(). IllegalArgumentException: i is not 0 to 63". */
    private static void memoryAtTheEdges() {
        LabelledCore core = new LabelledCore();
        core.poke(0, -1, 0);
        Check.due("number -1 and label 0", 4294967295L, core.memory(0));
        core.poke(0, 0, 1);
        Check.due("number 0 and label 1", 4294967296L, core.memory(0));
        core.poke(63, 0, Integer.MIN_VALUE);
        Check.due("the highest bit of the label", Long.MIN_VALUE, core.memory(63));
        core.poke(63, -1, -1);
        Check.due("all bits", -1L, core.memory(63));
        Check.illegal("memory(64)", () -> core.memory(64));
        for (int wrong : FAR_OFF) {
            Check.illegal("memory(" + wrong + ")", () -> core.memory(wrong));
        }
    }

    /** Promise 13: "IndexOutOfBoundsException: there is none": none at all, behind the last one, behind 256. */
    private static void outputAtTheEdges() {
        LabelledCore core = outLoop();
        Check.outOfBounds("output(0) when none went out", () -> core.output(0));
        core.set(1, -1, -1);
        core.run(1);
        Check.due("all bits", -1L, core.output(0));
        Check.outOfBounds("output(1) when one went out", () -> core.output(1));
        core.set(1, 0, Integer.MIN_VALUE);
        core.run(1000);
        Check.due("output(0) stays", -1L, core.output(0));
        Check.due("output(1)", Long.MIN_VALUE, core.output(1));
        Check.due("output(255)", Long.MIN_VALUE, core.output(255));
        Check.outOfBounds("output(256)", () -> core.output(256));
        for (int wrong : FAR_OFF) {
            Check.outOfBounds("output(" + wrong + ")", () -> core.output(wrong));
        }
        core.begin();
        Check.outOfBounds("output(0) behind begin()", () -> core.output(0));
        core.run(1);
        Check.due("output(0) of the new run", 0, core.output(0));
        Check.outOfBounds("output(1), which is of the old run", () -> core.output(1));
    }

    /** Promise 14: "IllegalArgumentException: another what". */
    private static void toldAtTheEdges() {
        LabelledCore core = new LabelledCore();
        Check.due("told(0)", 0, core.told(0));
        Check.due("told(8)", 0, core.told(8));
        Check.illegal("told(9)", () -> core.told(9));
        for (int wrong : FAR_OFF) {
            Check.illegal("told(" + wrong + ")", () -> core.told(wrong));
        }
    }

    /** Promise 14: what told() answers when each of its numbers is as far as it goes. */
    private static void toldAtItsMost() {
        LabelledCore leapt = Asm.core(Asm.leap(0, 1, 0));
        leapt.set(1, -1, -1);
        leapt.run(1);
        Check.due("the PC, its highest bits set", -2, leapt.told(1));
        Check.due("its label, all bits set", -1, leapt.told(2));

        LabelledCore missing = Asm.core(Asm.addI(1, 1, 1), Asm.call(0, -4));
        missing.cache(1);
        for (int i = 1; i <= 100; i++) {
            missing.run(1000);
        }
        Check.due("instructions done", 100000, missing.told(3));
        Check.due("each of them a miss", 100000, missing.told(4));
        Check.due("one key is known", 1, missing.told(5));

        LabelledCore full = new LabelledCore();
        full.cache(64);
        for (int i = 0; i < 66; i++) {
            full.word(Asm.out(1));
        }
        for (int i = 0; i < 66; i++) {
            full.set(1, 0, i);
            full.run(1);
            if (i >= 62) {
                Check.due("keys known by " + (i + 1) + " OUTs", Math.min(64, i + 1), full.told(5));
            }
        }
        Check.due("values that went out", 66, full.told(6));
    }

    /** Promise 14: "for how many misses the kernel took more than 200 instructions (8), which it never does". */
    private static void toldEightStaysZero() {
        for (int mask : new int[] {0, 15}) {
            LabelledCore core = Asm.core(Asm.store(2, 2, 1, 0), Asm.store(0, 2, 1, 3), Asm.load(2, 5, 1, 0),
                Asm.add(5, 1, 2), Asm.in(5), Asm.out(1), Asm.branch(0, 1, 2, 4), Asm.leap(0, 3, 0));
            for (int group = 0; group <= 8; group++) {
                core.rule(group, mask, mask, mask, mask);
            }
            core.cache(1);
            core.set(1, 4096, -1);
            core.input(1, -1);
            core.input(2, -1);
            Check.due("two turns, then the IN waits", 20, core.run(1000));
            Check.due("not one was long", 0, core.told(8));
        }
    }
}
