/** RULES: every mask in every place of every group, which labels an instruction has, and what WITHIN means. */
public final class RuleTest {
    private static final int P = 1;
    private static final int X = 2;
    private static final int Y = 4;

    /** One instruction of each kind, its group and which of P X Y M it has, as a mask. */
    private static final int[][] KINDS = {
        {Asm.add(5, 1, 2), 0, 7}, {Asm.work(0, 32, 5, 1, 2), 0, 7}, {Asm.addI(5, 1, 2), 0, 3},
        {Asm.workI(5, 5, 1, 2), 0, 3}, {Asm.upper(5, 0x00110), 0, 1}, {Asm.upperFromPc(5, 0x00110), 0, 1},
        {Asm.load(2, 5, 1, 0), 1, 11}, {Asm.load(0, 5, 1, 3), 1, 11}, {Asm.load(4, 5, 1, 2), 1, 11},
        {Asm.store(2, 2, 1, 0), 2, 15}, {Asm.store(0, 2, 1, 3), 3, 15},
        {Asm.branch(0, 1, 2, 8), 4, 7}, {Asm.branch(1, 1, 2, 8), 4, 7},
        {Asm.call(5, 8), 5, 1}, {Asm.leap(5, 1, 0), 6, 3},
        {Asm.out(1), 7, 3}, {Asm.in(5), 8, 9},
        // bits that IN and CALL leave aside name registers with labels, and these must not count
        {Asm.fields(11, 5, 1, 1, 2, 0), 8, 9}, {Asm.fields(11, 7, 0, 1, 2, 127), 7, 3},
        {Asm.fields(111, 5, 0, 1, 2, 0), 5, 1}
    };

    public static void main(String[] args) {
        for (int[] kind : KINDS) {
            resultsAndNexts(kind[0], kind[1], kind[2]);
            leftsAndRights(kind[0], kind[1], kind[2]);
            onlyItsOwnGroup(kind[0], kind[1]);
        }
        branchHasNoResult();
        labelsBeforeItIsDone();
        Check.end();
    }

    /** The labels that a kind has under a mask, with P 1, X 2, Y 4 and M m. */
    private static int labels(int mask, int has, int m) {
        int named = mask & has;
        return ((named & 1) != 0 ? P : 0) | ((named & 2) != 0 ? X : 0) | ((named & 4) != 0 ? Y : 0)
            | ((named & 8) != 0 ? m : 0);
    }

    /** The same by the group's number, for a kind that has all labels that its group can have. */
    static int joined(int mask, int group, int m) {
        int has = new int[] {7, 11, 15, 15, 7, 1, 3, 3, 9}[group];
        return labels(mask, has, m);
    }

    private static LabelledCore core(int w, int m) {
        return PromiseTest.coreWithLabels(w, P, X, Y, m);
    }

    /** "a mask stands for the join of the labels that it names", "A label that it has not is 0": masks 0 to 15. */
    private static void resultsAndNexts(int w, int group, int has) {
        for (int mask = 0; mask < 16; mask++) {
            LabelledCore core = core(w, 8);
            core.rule(group, mask, 15 - mask, 0, 0);
            Check.due("it is done", 1, core.run(1));
            if (group != 4) {
                Check.due(w + ": RESULT " + mask, labels(mask, has, 8), put(core, group) >> 32);
            }
            Check.due(w + ": NEXT " + (15 - mask), labels(15 - mask, has, 8), core.told(2));
            Check.due(w + ": a miss for it and the branch before", 2, core.told(4));
        }
    }

    private static long put(LabelledCore core, int group) {
        if (group == 2 || group == 3) {
            return core.memory(0);
        }
        return group == 7 ? core.output(0) : core.register(5);
    }

    /** "ALLOWED if LEFT is within RIGHT": all masks against all, 0 and 15 among them. */
    private static void leftsAndRights(int w, int group, int has) {
        for (int left = 0; left < 16; left++) {
            for (int right = 0; right < 16; right++) {
                LabelledCore core = core(w, 8);
                core.rule(group, 15, 15, left, right);
                int over = labels(left, has, 8) & ~labels(right, has, 8);
                Check.due(w + ": LEFT " + left + ", RIGHT " + right, over == 0 ? 1 : 0, core.run(1));
                Check.due(w + ": its outcome", over == 0 ? 0 : 2, core.told(0));
                Check.due(w + ": its misses", 2, core.told(4));
                Check.due(w + ": what is known", over == 0 ? 1 : 0, core.told(5));
            }
        }
    }

    /** "The rule of a group": no other group has it. */
    private static void onlyItsOwnGroup(int w, int group) {
        for (int other = 0; other <= 8; other++) {
            LabelledCore core = core(w, 3);
            core.rule(other, 0, 0, 1, 0);
            Check.due(w + ": a rule of group " + other + " forbids P", other == group ? 0 : 1, core.run(1));
        }
    }

    /** "What it puts into a register or memory, or what goes out": a BRANCH puts nothing anywhere. */
    private static void branchHasNoResult() {
        for (int f : new int[] {0, 1}) {
            LabelledCore core = core(Asm.branch(f, 1, 2, 8), 8);
            core.rule(4, 15, 0, 0, 0);
            long[] due = Seen.of(core);
            due[1] = f == 0 ? 8 : 12;
            due[2] = 0;
            due[3]++;
            due[4]++;
            due[5]++;
            core.run(1);
            Seen.due("BRANCH with F " + f + " and RESULT 15", due, core);
        }
    }

    /** "The labels that an instruction has": those before it is done, also where it changes one of them. */
    private static void labelsBeforeItIsDone() {
        LabelledCore same = core(Asm.add(1, 1, 1), 8);
        same.run(1);
        Check.due("A, B and D are one register", Check.pair(8192, P | X), same.register(1));
        LabelledCore leap = core(Asm.leap(1, 1, 0), 8);
        leap.run(1);
        Check.due("D is A: the address behind", Check.pair(8, P), leap.register(1));
        Check.due("D is A: NEXT by the old label", P | X, leap.told(2));
        LabelledCore patch = core(Asm.store(0, 2, 1, 0), 11);
        patch.run(1);
        Check.due("the rest of the word keeps its label's bits", Check.pair(9, P | X | Y | 11), patch.memory(0));
        LabelledCore store = core(Asm.store(2, 2, 1, 0), 27);
        store.run(1);
        Check.due("a whole word loses them", Check.pair(9, P | X | Y), store.memory(0));
    }
}
