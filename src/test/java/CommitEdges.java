/** The boundaries that the terms name for COMMIT and for the PENDING words. */
final class CommitEdges {
    private CommitEdges() {
    }

    static void all() {
        Edge.of("COMMIT: the entries are the PENDING words, in the order in which they were first written, each with "
            + "what it has last, then TASK (0) and COMMITS (1, one more).", CommitEdges::nothingPending,
            CommitEdges::firstOrderLastWord, CommitEdges::wordsThatStayTheSame);
        Edge.of("STEPS (4 each): each entry's two words come to the LIST, where, then what (a STEP for each word); MARK "
            + "is written, how many entries there are; the word of each entry is written; MARK is written 0.",
            CommitEdges::stepByStep, CommitEdges::stepsOfTheFullest);
        Edge.of("Behind that: the task's ESTIMATE becomes what the attempt SPENT (with all these STEPS), if that is more;"
            + " its FAILURES are 0; the PHASE is AIR.", CommitEdges::estimateIfMore,
            CommitEdges::elevenFailuresAreForgotten, CommitEdges::asTheLastStepOfASlot);
        Edge.of("A word that is written counts for its WEAR, also if it stays the same.", CommitEdges::sameWord);
        Edge.of("An attempt with more than 38 PENDING words: the instruction that would make it so is done without its "
            + "writes: by PUSH, POP and SEND just register 7 becomes 0, by others nothing changes.",
            CommitEdges::putAtTheLimit, CommitEdges::storeAtTheLimit, CommitEdges::pushAtTheLimit,
            CommitEdges::popAtTheLimit, CommitEdges::sendAtTheLimit, CommitEdges::pendingWordsAtTheLimit,
            CommitEdges::emptyAtTheLimit, CommitEdges::paidAtTheLimit, CommitEdges::theNextAttemptHasRoom);
    }

    private static void nothingPending() {
        ThriftNode x = Asm.sealed(Asm.code(Asm.end(1)), Asm.code(Asm.end(0)));
        Asm.stepsAndCut(x, 1 + 4 + 1, 500);
        Asm.words(x, "just TASK and COMMITS", Asm.LIST, 0, 1, 1, 1, 0, 0);
        Asm.words(x, "MARK", Asm.MARK, 2);
    }

    private static void firstOrderLastWord() {
        ThriftNode x = Asm.sealed(Asm.code(Asm.set(0, 4), Asm.put(0, 15), Asm.put(0, 0), Asm.set(0, 5), Asm.put(0, 15),
            Asm.send(0), Asm.set(0, 6), Asm.put(0, 0), Asm.send(0), Asm.end(0)));
        Asm.stepsAndCut(x, 10 + 14, 500);
        Asm.words(x, "the list", Asm.LIST, 23, 5, 8, 6, 68, 5, 3, 2, 69, 6, 0, 0, 1, 1, 0);
    }

    /** A word that becomes what it is kept as is an entry as well. */
    private static void wordsThatStayTheSame() {
        ThriftNode x = Asm.sealed(Asm.code(Asm.put(0, 3), Asm.end(0)));
        Asm.stepsAndCut(x, 2 + 6 + 1, 500);
        Asm.words(x, "the list", Asm.LIST, 11, 0, 0, 0, 1, 1, 0);
        Asm.words(x, "MARK", Asm.MARK, 3);
    }

    /** Behind each step, the word that was written by it and none behind it. */
    private static void stepByStep() {
        int[] written = {84, 85, 86, 87, 88, 89, 2, 11, 0, 1, 2};
        for (int done = 0; done <= written.length; done++) {
            ThriftNode x = Asm.sealed(Asm.code(Asm.put(0, 3), Asm.end(0)));
            Asm.stepsAndCut(x, 2 + done, 500);
            int[] wears = new int[164];
            for (int k = 0; k < done; k++) {
                wears[written[k]]++;
            }
            Asm.wears(x, "behind " + done, 0, wears);
            Due.is("behind " + done + ": MARK", x.kept(Asm.MARK, false), done >= 7 && done < 11 ? 3 : 0);
            Due.is("4 each: state(1)", x.state(1), 440 - 3 - 4 * done);
        }
    }

    private static void stepsOfTheFullest() {
        ThriftNode x = Asm.sealed(PendingLimitTest.fullAttempt(Asm.end(1)), Asm.code(Asm.go(0)));
        Asm.stepsAndCut(x, PendingLimitTest.STEPS + 1 + 121, 500);
        Asm.words(x, "all but the last step", 0, 1, 1, 40);
        ThriftNode y = Asm.sealed(PendingLimitTest.fullAttempt(Asm.end(1)), Asm.code(Asm.go(0)));
        Asm.stepsAndCut(y, PendingLimitTest.STEPS + 1 + 122, 500);
        Asm.words(y, "over", 0, 1, 1, 0);
        Asm.task(y, "122 steps", 0, 97 + 12 + 1 + 122 * 4, 0);
    }

    /** The reading tells how often it goes round, which is what the attempts differ in. */
    private static void estimateIfMore() {
        ThriftNode x = Asm.sealed(Asm.code(Asm.sense(0, 0), Asm.set(1, 1), Asm.zero(0, 5), Asm.sub(0, 0, 1), Asm.go(2),
            Asm.end(0)));
        int[] readings = {1, 1, 0, 2};
        int[] estimates = {48, 48, 48, 51};
        for (int k = 0; k < readings.length; k++) {
            x.sense(0, readings[k]);
            Asm.stepsAndCut(x, 4 + 3 * readings[k] + 8, 500);
            Due.is("COMMITS", x.kept(Asm.COMMITS, false), k + 1);
            Asm.task(x, "attempt " + k, 0, estimates[k], 0);
        }
    }

    private static void elevenFailuresAreForgotten() {
        ThriftNode x = Asm.sealed(Asm.code(Asm.end(0)));
        for (int k = 0; k < 11; k++) {
            Due.is("slot(60)", x.slot(60), 0);
        }
        Asm.task(x, "eleven", 0, 0, 11);
        Asm.stepsAndCut(x, 8, 500);
        Asm.task(x, "the commit is not over", 0, 0, 11);
        // The replay takes 3.
        Asm.stepsAndCut(x, 3 + 9, 500);
        Asm.task(x, "over", 0, 33, 0);
        Asm.stepsAndCut(x, 1, 500);
        Asm.task(x, "the first one", 0, 66, 1);
        Due.is("state(6)", x.state(6), -1);
    }

    private static void asTheLastStepOfASlot() {
        ThriftNode x = Asm.sealed(Asm.join(Asm.times(7, Asm.set(0, 9)), Asm.code(Asm.end(0))));
        Due.is("slot(500)", x.slot(500), 16);
        Asm.states(x, "AIR", Asm.AIR, 440 - 40, 1, 0, 0, 0, -1, 0, 0, 0);
        Asm.registers(x, "AIR", new int[8]);
        Asm.task(x, "with all these steps", 0, 40, 0);
        ThriftNode y = Asm.sealed(Asm.join(Asm.times(8, Asm.set(0, 9)), Asm.code(Asm.end(0))));
        Due.is("slot(500)", y.slot(500), 16);
        Asm.states(y, "one before", Asm.COMMIT, 440 - 37, 1, 37, 0, 0, -1, 0, 0, 0);
        Asm.task(y, "one before", 0, 0, 0);
    }

    private static void sameWord() {
        ThriftNode x = Asm.sealed(Asm.code(Asm.set(0, 9), Asm.put(0, 0), Asm.put(1, 1), Asm.end(0)));
        for (int k = 1; k <= 3; k++) {
            Asm.stepsAndCut(x, 4 + Asm.commit(2), 500);
            Asm.words(x, "commit " + k, Asm.CELLS, 9, 0);
            Asm.wears(x, "commit " + k, Asm.CELLS, k, k, 0);
            Asm.wears(x, "commit " + k, 0, k, k, 2 * k);
            Asm.wears(x, "commit " + k, Asm.LIST, k, k, k, k, k, k, k, k, 0);
        }
        // In one attempt a word is pending once, however often it was written.
        ThriftNode y = Asm.sealed(Asm.code(Asm.put(0, 0), Asm.put(0, 0), Asm.put(0, 0), Asm.end(0)));
        Asm.stepsAndCut(y, 4 + Asm.commit(1), 500);
        Asm.wears(y, "one entry", Asm.CELLS, 1, 0);
    }

    /** All 32 words of the rows, then cells, are pending; register 1 is 8, 2 is 1 and 3 is 0 by then. */
    private static ThriftNode ran(int pending, int... tail) {
        int[] code = Asm.join(PendingLimitTest.allRows(), PendingLimitTest.cells(pending - 32), tail);
        ThriftNode x = Asm.sealed(Asm.held(code));
        Asm.slots(x, 8, 500, 16);
        Due.is("it waits", x.state(5), code.length);
        return x;
    }

    private static void putAtTheLimit() {
        ThriftNode x = ran(37, Asm.set(0, 50), Asm.set(7, 5), Asm.put(0, 15), Asm.get(4, 15));
        Asm.registers(x, "the 38th", 50, 8, 1, 0, 50, 0, 0, 5);
        Due.is("state(4)", x.state(4), 38);
        ThriftNode y = ran(38, Asm.set(0, 50), Asm.set(7, 5), Asm.put(0, 15), Asm.get(4, 15));
        Asm.registers(y, "the 39th", 50, 8, 1, 0, 0, 0, 0, 5);
        Due.is("state(4)", y.state(4), 38);
    }

    /** Here row 3 has no word pending before the 38th. */
    private static void storeAtTheLimit() {
        // Goes round seven times with three words: 21, and 16 cells.
        int[] rows = Asm.code(Asm.set(2, 1), Asm.set(3, 7), Asm.store(2, 0, 3), Asm.store(2, 1, 3), Asm.store(2, 2, 3),
            Asm.sub(3, 3, 2), Asm.zero(3, 8), Asm.go(2));
        ThriftNode x = Asm.sealed(Asm.held(Asm.join(rows, PendingLimitTest.cells(16), Asm.code(Asm.set(0, 50),
            Asm.store(0, 3, 3), Asm.store(0, 3, 2), Asm.load(4, 3, 3), Asm.load(5, 3, 2)))));
        Asm.slots(x, 6, 500, 16);
        Due.is("it waits", x.state(5), 29);
        Asm.registers(x, "the 38th and the 39th", 50, 0, 1, 0, 50, 0, 0, 0);
        Due.is("state(4)", x.state(4), 38);
    }

    private static void pushAtTheLimit() {
        ThriftNode x = ran(36, Asm.set(7, 5), Asm.push(2, 1));
        Asm.registers(x, "37 and 38", 0, 8, 1, 0, 0, 0, 0, 1);
        Due.is("state(4)", x.state(4), 38);
        ThriftNode y = ran(37, Asm.set(7, 5), Asm.push(2, 1), Asm.add(4, 7, 3), Asm.set(5, 9), Asm.pop(5, 1));
        Asm.registers(y, "38 and 39: neither", 0, 8, 1, 0, 0, 0, 0, 0);
        Due.is("state(4)", y.state(4), 37);
        ThriftNode z = ran(38, Asm.set(7, 5), Asm.push(2, 1));
        Asm.registers(z, "39 and 40", 0, 8, 1, 0, 0, 0, 0, 0);
        Due.is("state(4)", z.state(4), 38);
    }

    private static void popAtTheLimit() {
        // The PUSH brings two; where the first one is makes one more.
        ThriftNode x = ran(35, Asm.set(0, 50), Asm.push(0, 1), Asm.set(7, 5), Asm.pop(4, 1));
        Asm.registers(x, "the 38th", 50, 8, 1, 0, 50, 0, 0, 1);
        Due.is("state(4)", x.state(4), 38);
        ThriftNode y = ran(36, Asm.set(0, 50), Asm.push(0, 1), Asm.set(7, 5), Asm.set(4, 9), Asm.pop(4, 1));
        Asm.registers(y, "the 39th", 50, 8, 1, 0, 9, 0, 0, 0);
        Due.is("state(4)", y.state(4), 38);
        popOfAKeptQueue();
    }

    private static void popOfAKeptQueue() {
        for (int cells : new int[] {4, 5}) {
            ThriftNode x = Asm.sealed(Asm.code(Asm.set(0, 50), Asm.push(0, 0), Asm.end(1)),
                Asm.held(Asm.join(PendingLimitTest.allRows(), PendingLimitTest.cells(cells),
                    Asm.code(Asm.set(7, 5), Asm.set(4, 9), Asm.pop(4, 0)))));
            Asm.slots(x, 9, 500, 16);
            boolean done = cells == 4;
            Due.is(cells + " cells: register(4)", x.register(4), done ? 50 : 9);
            Due.is(cells + " cells: register(7)", x.register(7), done ? 1 : 0);
            Due.is(cells + " cells: state(4)", x.state(4), done ? 38 : 37);
        }
    }

    private static void sendAtTheLimit() {
        ThriftNode x = ran(36, Asm.set(7, 5), Asm.send(2));
        Asm.registers(x, "37 and 38", 0, 8, 1, 0, 0, 0, 0, 1);
        Due.is("state(4)", x.state(4), 38);
        ThriftNode y = ran(37, Asm.set(7, 5), Asm.send(2));
        Asm.registers(y, "38 and 39: neither", 0, 8, 1, 0, 0, 0, 0, 0);
        Due.is("state(4)", y.state(4), 37);
        ThriftNode z = ran(35, Asm.send(2), Asm.set(7, 5), Asm.send(2), Asm.add(4, 7, 3), Asm.send(2));
        Asm.registers(z, "37 and NUMBER: one more, and no more", 0, 8, 1, 0, 1, 0, 0, 0);
        Due.is("state(4)", z.state(4), 38);
    }

    /** What is pending already may be written again. */
    private static void pendingWordsAtTheLimit() {
        ThriftNode x = ran(38, Asm.set(0, 50), Asm.put(0, 5), Asm.get(4, 5), Asm.store(0, 3, 3), Asm.load(5, 3, 3));
        Asm.registers(x, "a cell and a row", 50, 8, 1, 0, 50, 50, 0, 0);
        Due.is("state(4)", x.state(4), 38);
        // Place, how many and the first one are pending: PUSH needs place 1, which is the 38th; POP none.
        ThriftNode y = ran(34, Asm.set(0, 50), Asm.push(0, 1), Asm.pop(4, 1), Asm.set(0, 51), Asm.push(0, 1),
            Asm.set(7, 5), Asm.pop(5, 1));
        Asm.registers(y, "a queue", 51, 8, 1, 0, 50, 51, 0, 1);
        Due.is("state(4)", y.state(4), 38);
    }

    /** That has no writes, so the limit is nothing to it. */
    private static void emptyAtTheLimit() {
        ThriftNode x = ran(38, Asm.set(7, 5), Asm.set(4, 9), Asm.pop(4, 0));
        Asm.registers(x, "an empty queue", 0, 8, 1, 0, 0, 0, 0, 0);
        Due.is("state(4)", x.state(4), 38);
    }

    /** It is done: it is paid, and the instruction behind it is next. */
    private static void paidAtTheLimit() {
        ThriftNode x = ran(38, Asm.put(2, 15));
        // 97 for the rows, 12 for six cells, 2 for the PUT that is left out, and GO to the end of 128 steps.
        Due.is("state(3)", x.state(3), 97 + 12 + 2 + 128 - 65 - 6 - 1);
    }

    private static void theNextAttemptHasRoom() {
        ThriftNode x = Asm.sealed(PendingLimitTest.fullAttempt(Asm.put(2, 15), Asm.end(1)),
            Asm.held(Asm.set(0, 9), Asm.put(0, 15), Asm.get(1, 15)));
        Asm.slots(x, 13, 500, 16);
        Asm.registers(x, "the next attempt", 9, 9);
        Due.is("state(4)", x.state(4), 1);
        Due.is("the 39th was not kept", x.kept(Asm.CELLS + 15, true), 0);
        ThriftNode y = ran(38, Asm.put(2, 15));
        y.cut(1);
        y.slot(0);
        Due.is("OFF: state(4)", y.state(4), 0);
        Asm.slots(y, 8, 500, 16);
        Due.is("once more: state(4)", y.state(4), 38);
    }
}
