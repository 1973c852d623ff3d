/** Promise 7: kept words and their wear; how a commit marks a list and applies it, and its replay. */
public final class P07KeptTest {
    // A task with 5 instructions that cost 9, and its list.
    private static final int[] BODY =
        {Asm.set(0, 9), Asm.put(0, 0), Asm.put(0, 1), Asm.send(0), Asm.end(0)};
    private static final int[] BODY_LIST = {8, 9, 9, 9, 68, 9, 3, 1, 0, 0, 1, 1};
    private static final int ENTRIES = 6;

    public static void main(String[] args) {
        whichThereAre();
        for (int done = 0; done <= 20; done++) {
            commitCutBehind(done);
        }
        for (int applied = 0; applied <= ENTRIES; applied++) {
            for (int replayed = 1; replayed <= ENTRIES + 1; replayed++) {
                replayCutBehind(applied, replayed);
            }
        }
        theOrderOfTheFirstWrites();
        theSameWordCounts();
        longListThenShortList();
        theNextTask();
        Due.end("P07KeptTest");
    }

    private static void whichThereAre() {
        ThriftNode x = new ThriftNode();
        for (int at : new int[] {-1, 164, 165, Integer.MIN_VALUE, Integer.MAX_VALUE}) {
            Due.throwsIt("kept(" + at + ", false)", IndexOutOfBoundsException.class, () -> x.kept(at, false));
            Due.throwsIt("kept(" + at + ", true)", IndexOutOfBoundsException.class, () -> x.kept(at, true));
        }
        Due.is("kept(0, false)", x.kept(0, false), 0);
        Due.is("kept(163, true)", x.kept(163, true), 0);
    }

    /** The power fails behind so many steps of the commit. */
    private static void commitCutBehind(int done) {
        String when = "commit cut behind " + done;
        ThriftNode x = Asm.sealed(BODY);
        Asm.stepsAndCut(x, 5 + done, 500);
        int applied = Math.max(0, Math.min(ENTRIES, done - 13));
        checkList(x, when, Math.min(done, 12));
        Due.is(when + ": MARK", x.kept(Asm.MARK, false), done >= 13 && done < 20 ? ENTRIES : 0);
        Due.is(when + ": wear of MARK", x.kept(Asm.MARK, true), done < 13 ? 0 : done < 20 ? 1 : 2);
        for (int e = 0; e < ENTRIES; e++) {
            checkEntry(x, when, e, e < applied ? 1 : 0);
        }
        Due.is(when + ": FAILURES", x.task(0, 1), done < 13 ? 1 : 0);
        Due.is(when + ": ESTIMATE", x.task(0, 0), done < 13 ? 2 * (9 + 4 * done) : done < 20 ? 0 : 9 + 80);
        Due.is(when + ": power failures", x.state(7), 1);
    }

    private static void checkList(ThriftNode x, String when, int written) {
        for (int k = 0; k < BODY_LIST.length; k++) {
            Due.is(when + ": LIST word " + k, x.kept(Asm.LIST + k, false), k < written ? BODY_LIST[k] : 0);
            Due.is(when + ": its wear", x.kept(Asm.LIST + k, true), k < written ? 1 : 0);
        }
    }

    private static void checkEntry(ThriftNode x, String when, int e, int wear) {
        int at = BODY_LIST[2 * e];
        Due.is(when + ": kept(" + at + ", false)", x.kept(at, false), wear > 0 ? BODY_LIST[2 * e + 1] : 0);
        Due.is(when + ": kept(" + at + ", true)", x.kept(at, true), wear);
    }

    /** The power fails with some entries applied, and again behind so many steps of the replay. */
    private static void replayCutBehind(int applied, int replayed) {
        String when = applied + " applied, " + replayed + " replayed";
        ThriftNode x = Asm.sealed(BODY);
        Asm.stepsAndCut(x, 5 + 13 + applied, 500);
        int energy = x.state(1);
        x.cut(replayed);
        Due.is(when + ": slot(500)", x.slot(500), replayed);
        Due.is(when + ": energy", x.state(1), Math.min(2000, energy + 500) - 60 - 4 * replayed);
        for (int e = 0; e < ENTRIES; e++) {
            checkEntry(x, when, e, (e < applied ? 1 : 0) + (e < replayed ? 1 : 0));
        }
        boolean over = replayed > ENTRIES;
        Due.is(when + ": MARK", x.kept(Asm.MARK, false), over ? 0 : ENTRIES);
        Due.is(when + ": wear of MARK", x.kept(Asm.MARK, true), over ? 2 : 1);
        Due.is(when + ": FAILURES", x.task(0, 1), 0);
        Due.is(when + ": ESTIMATE", x.task(0, 0), 0);
        checkList(x, when, 12);
        // From its first entry on again; behind it frame 0 is put on the air and noted.
        x.cut((over ? 0 : ENTRIES + 1) + 2);
        Due.is(when + ": once more", x.slot(500), (over ? 0 : ENTRIES + 1) + 2);
        for (int e = 0; e < ENTRIES; e++) {
            checkEntry(x, when + ", once more", e, (e < applied ? 1 : 0) + (e < replayed ? 1 : 0) + (over ? 0 : 1));
        }
        Due.is(when + ": MARK at last", x.kept(Asm.MARK, false), 0);
        Due.is(when + ": wear of MARK at last", x.kept(Asm.MARK, true), 2);
        Due.is(when + ": SENT at last", x.kept(Asm.SENT, false), 1);
    }

    private static void theOrderOfTheFirstWrites() {
        ThriftNode x = Asm.sealed(Asm.code(Asm.set(0, 4), Asm.put(0, 5), Asm.put(0, 2), Asm.push(0, 1), Asm.set(0, 6),
            Asm.put(0, 5), Asm.pop(1, 1), Asm.store(0, 3, 0), Asm.end(0)));
        // Entries: cell 5, cell 2, the place, how many, where the first one is, row 3 word 6, TASK, COMMITS.
        Asm.stepsAndCut(x, 9 + 17, 500);
        Asm.words(x, "list", Asm.LIST, 13, 6, 10, 4, 64, 4, 63, 0, 62, 1, 24 + 24 + 6, 6, 0, 0, 1, 1, 0, 0);
        Due.is("MARK", x.kept(Asm.MARK, false), 8);
    }

    private static void theSameWordCounts() {
        ThriftNode x = Asm.sealed(Asm.code(Asm.put(0, 3), Asm.end(0)));
        // 2 in RUN, 3 entries with 11 in COMMIT.
        Asm.stepsAndCut(x, 13 * 4, 500);
        Asm.words(x, "four times", 0, 0, 4, 0, 0, 0);
        Asm.wears(x, "four times", 0, 4, 4, 8, 0, 0);
        Due.is("cell 3", x.kept(11, false), 0);
        Due.is("its wear", x.kept(11, true), 4);
        Asm.wears(x, "four times", Asm.LIST, 4, 4, 4, 4, 4, 4, 0, 0);
        Asm.words(x, "four times", Asm.LIST, 11, 0, 0, 0, 1, 4, 0, 0);
    }

    /** What a longer list left behind the first MARK entries is not applied. */
    private static void longListThenShortList() {
        ThriftNode x = Asm.sealed(
            Asm.code(Asm.set(0, 7), Asm.put(0, 0), Asm.put(0, 1), Asm.put(0, 2), Asm.end(1)),
            Asm.code(Asm.end(1)));
        // 5 and 17 for task 0; then END, four words, MARK, TASK.
        Asm.stepsAndCut(x, 5 + 17 + 1 + 4 + 1 + 1, 500);
        Asm.words(x, "list", Asm.LIST, 0, 1, 1, 2, 10, 7, 0, 1, 1, 1);
        Due.is("MARK", x.kept(Asm.MARK, false), 2);
        Asm.stepsAndCut(x, 3, 500);
        Asm.words(x, "replayed", 0, 1, 2, 0);
        Asm.wears(x, "replayed", 8, 1, 1, 1, 0);
        Asm.wears(x, "replayed", 0, 3, 2, 4);
    }

    private static void theNextTask() {
        ThriftNode x = Asm.sealed(Asm.code(Asm.end(2)), Asm.code(Asm.end(1)), Asm.code(Asm.end(15)),
            Asm.code(), Asm.code(), Asm.code(), Asm.code(), Asm.code(), Asm.code(), Asm.code(), Asm.code(),
            Asm.code(), Asm.code(), Asm.code(), Asm.code(), Asm.code(Asm.end(1)));
        int[] tasks = {2, 15, 1, 1};
        for (int k = 0; k < tasks.length; k++) {
            Asm.stepsAndCut(x, 9, 500);
            Due.is("TASK behind commit " + k, x.kept(Asm.TASK, false), tasks[k]);
            Due.is("COMMITS", x.kept(Asm.COMMITS, false), k + 1);
        }
        for (int t : new int[] {0, 1, 2, 15}) {
            Due.is("task(" + t + ", 0)", x.task(t, 0), 33);
        }
    }
}
