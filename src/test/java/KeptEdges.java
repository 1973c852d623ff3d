/** The boundaries that the terms name for words, tasks, registers and costs. */
final class KeptEdges {
    private KeptEdges() {
    }

    static void all() {
        Edge.of("An object is used for at most 512 calls after it has been made; what later calls answer is free.",
            KeptEdges::theLastCall);
        Edge.of("WORDS are ints.", KeptEdges::leastAndGreatest);
        Edge.of("KEPT words, 0 .. 163, outlive a power failure, 0 at first;", KeptEdges::firstAndLastWord,
            KeptEdges::zeroAtFirst, KeptEdges::outlive);
        Edge.of("each has a WEAR, how often it was written.", KeptEdges::neverOnceAndOften);
        Edge.of("0: TASK, the task that runs next; 1: COMMITS; 2: MARK; 3: NUMBER, how many frames there are; 4: SENT, "
            + "how many of these have been on the air and noted.", KeptEdges::firstFive, KeptEdges::airedAndNotNoted);
        Edge.of("8 .. 23: CELLS 0 .. 15.", KeptEdges::firstAndLastCell);
        Edge.of("24 .. 55: ROWS 0 .. 3 of eight words.", KeptEdges::cornersOfRows);
        Edge.of("56 .. 67: QUEUES 0 and 1, six words each: where its first one is (0 .. 3), how many (0 .. 4), four "
            + "places.", KeptEdges::fullQueues, KeptEdges::theFirstOneGoesRound);
        Edge.of("68 .. 83: payloads, of frame n at 68 + n % 16.", KeptEdges::payloadsGoRound);
        Edge.of("84 .. 163: the LIST, entries of two words: where, what.", KeptEdges::shortestList,
            KeptEdges::longestList);
        Edge.of("TASKS are 0 .. 15, with up to 32 INSTRUCTIONS each, one int: its highest byte the OP, then a, b, c "
            + "(bytes, 0 .. 255).", KeptEdges::lastInstructionOfTheLastTask, KeptEdges::bytesHaveNoSign);
        Edge.of("REGISTERS are 0 .. 7.", KeptEdges::firstAndLastRegister);
        Edge.of("Costs are in ( ).", KeptEdges::justEnoughForEachOp);
    }

    private static void theLastCall() {
        ThriftNode x = Asm.sealed(Asm.code(Asm.go(0)));
        // program and seal were two.
        Asm.slots(x, 509, 100, 16);
        Due.is("call 512: state(2)", x.state(2), 509);
    }

    private static void leastAndGreatest() {
        ThriftNode x = Asm.sealed(Asm.code(Asm.sense(0, 0), Asm.sense(1, 1), Asm.put(0, 0), Asm.put(1, 1),
            Asm.store(0, 0, 2), Asm.push(1, 0), Asm.send(0), Asm.end(0)));
        x.sense(0, Integer.MIN_VALUE);
        x.sense(1, Integer.MAX_VALUE);
        Asm.stepsAndCut(x, 8 + Asm.commit(7) + 1, 500);
        Asm.words(x, "cells", Asm.CELLS, Integer.MIN_VALUE, Integer.MAX_VALUE);
        Asm.words(x, "row", Asm.ROWS, Integer.MIN_VALUE);
        Asm.words(x, "queue", Asm.QUEUES, 0, 1, Integer.MAX_VALUE);
        Asm.words(x, "payload", Asm.PAYLOADS, Integer.MIN_VALUE);
        Due.is("heard(0)", x.heard(0), Integer.MIN_VALUE);
    }

    private static void firstAndLastWord() {
        ThriftNode x = new ThriftNode();
        Asm.words(x, "the first one", 0, 0);
        Asm.words(x, "the last one", 163, 0);
        Due.throwsIt("kept(-1, false)", IndexOutOfBoundsException.class, () -> x.kept(-1, false));
        Due.throwsIt("kept(164, false)", IndexOutOfBoundsException.class, () -> x.kept(164, false));
    }

    private static void zeroAtFirst() {
        ThriftNode x = new ThriftNode();
        Asm.words(x, "at first", 0, new int[164]);
        Asm.wears(x, "at first", 0, new int[164]);
    }

    /** The fullest list, so that the last word has something to keep. */
    private static void outlive() {
        ThriftNode x = Asm.sealed(PendingLimitTest.fullAttempt(Asm.end(1)), Asm.code(Asm.go(0)));
        Asm.slots(x, 13, 500, 16);
        int[] before = new int[164];
        for (int at = 0; at < 164; at++) {
            before[at] = x.kept(at, false);
        }
        Due.is("the last one is not 0", before[163], 1);
        x.cut(1);
        x.slot(0);
        Due.is("the power failed", x.state(7), 1);
        Asm.words(x, "behind the failure", 0, before);
    }

    private static void neverOnceAndOften() {
        ThriftNode x = Asm.sealed(Asm.code(Asm.put(0, 2), Asm.end(1)), Asm.code(Asm.end(1)));
        Asm.wears(x, "never", 0, 0, 0, 0, 0, 0, 0, 0, 0, 0, 0, 0);
        Asm.stepsAndCut(x, 2 + Asm.commit(1), 500);
        Asm.wears(x, "once, MARK twice", 0, 1, 1, 2, 0, 0, 0, 0, 0, 0, 0, 1);
        Asm.stepsAndCut(x, 3 * (1 + Asm.commit(0)), 500);
        Asm.wears(x, "four times", 0, 4, 4, 8, 0, 0, 0, 0, 0, 0, 0, 1);
        Asm.wears(x, "the list", Asm.LIST, 4, 4, 4, 4, 1, 1, 0);
    }

    private static void firstFive() {
        ThriftNode x = Asm.sealed(Asm.code(Asm.send(0), Asm.send(0), Asm.send(0), Asm.end(1)),
            Asm.code(Asm.end(0)));
        // Three payloads and NUMBER: 6 entries.
        int marked = 4 + 12 + 1;
        Asm.stepsAndCut(x, marked, 500);
        Asm.words(x, "marked", 0, 0, 0, 6, 0, 0);
        Asm.stepsAndCut(x, 7, 500);
        Asm.words(x, "applied", 0, 1, 1, 0, 3, 0);
        Asm.stepsAndCut(x, 4, 500);
        Asm.words(x, "two are noted", 0, 1, 1, 0, 3, 2);
        Asm.stepsAndCut(x, 2 + 9, 500);
        Asm.words(x, "all are noted, and task 1 came through", 0, 0, 2, 0, 3, 3);
        Asm.words(x, "5 .. 7 are nothing", 5, 0, 0, 0);
    }

    private static void airedAndNotNoted() {
        ThriftNode x = Frames.cutWithFrameOnAir(0);
        Due.is("on the air", x.state(9), 1);
        Due.is("and not noted: SENT", x.kept(Asm.SENT, false), 0);
        ThriftNode y = Frames.node();
        Asm.stepsAndCut(y, Frames.stepsToAir(7) + 1, 500);
        Asm.words(y, "the last one noted", 3, 8, 8);
    }

    private static void firstAndLastCell() {
        ThriftNode x = Asm.sealed(Asm.code(Asm.set(0, 5), Asm.put(0, 0), Asm.set(0, 6), Asm.put(0, 15), Asm.end(0)));
        Asm.stepsAndCut(x, 5 + Asm.commit(2), 500);
        Asm.words(x, "first and last cell", 7, 0, 5, 0, 0, 0, 0, 0, 0, 0, 0, 0, 0, 0, 0, 0, 0, 6, 0);
    }

    private static void cornersOfRows() {
        ThriftNode x = Asm.sealed(Asm.code(Asm.set(0, 5), Asm.set(1, 7), Asm.store(0, 0, 2), Asm.store(1, 0, 1),
            Asm.set(0, 6), Asm.store(0, 3, 2), Asm.set(0, 8), Asm.store(0, 3, 1), Asm.end(0)));
        Asm.stepsAndCut(x, 9 + Asm.commit(4), 500);
        Asm.words(x, "row 0", 23, 0, 5, 0, 0, 0, 0, 0, 0, 7, 0);
        Asm.words(x, "row 3", 47, 0, 6, 0, 0, 0, 0, 0, 0, 8, 0);
    }

    private static void fullQueues() {
        ThriftNode x = Asm.sealed(Asm.code(Asm.set(0, 1), Asm.push(0, 0), Asm.push(0, 0), Asm.push(0, 0),
            Asm.push(0, 0), Asm.set(0, 2), Asm.push(0, 1), Asm.push(0, 1), Asm.push(0, 1), Asm.push(0, 1), Asm.end(0)));
        Asm.words(x, "empty", 55, new int[14]);
        Asm.stepsAndCut(x, 11 + Asm.commit(10), 500);
        Asm.words(x, "full", 55, 0, 0, 4, 1, 1, 1, 1, 0, 4, 2, 2, 2, 2, 0);
    }

    private static void theFirstOneGoesRound() {
        ThriftNode x = Asm.sealed(Asm.code(Asm.push(0, 1), Asm.pop(1, 1), Asm.end(0)));
        for (int k = 1; k <= 9; k++) {
            Asm.stepsAndCut(x, 3 + Asm.commit(3), 500);
            Asm.words(x, "round " + k, 62, k % 4, 0);
        }
    }

    private static void payloadsGoRound() {
        ThriftNode x = Frames.cutWithFrameOnAir(16);
        Asm.words(x, "frames 16 .. 23 over 8 .. 15", 67, 0, 17, 18, 19, 20, 21, 22, 23, 24, 9, 10, 11, 12, 13, 14, 15,
            16);
        ThriftNode y = Frames.cutWithFrameOnAir(32);
        Asm.words(y, "frames 32 .. 39 over 24 .. 31", 67, 0, 33, 34, 35, 36, 37, 38, 39, 40, 25, 26, 27, 28, 29, 30,
            31, 32);
    }

    private static void shortestList() {
        ThriftNode x = Asm.sealed(Asm.code(Asm.end(1)), Asm.code(Asm.end(0)));
        Asm.stepsAndCut(x, 1 + 5, 500);
        Asm.words(x, "two entries", 83, 0, 0, 1, 1, 1, 0, 0);
        Asm.wears(x, "two entries", 83, 0, 1, 1, 1, 1, 0, 0);
        Due.is("MARK", x.kept(Asm.MARK, false), 2);
    }

    private static void longestList() {
        ThriftNode x = Asm.sealed(PendingLimitTest.fullAttempt(Asm.end(0)));
        Asm.stepsAndCut(x, PendingLimitTest.STEPS + 1 + 79, 500);
        Asm.wears(x, "all but the last word", 160, 1, 1, 1, 0);
        ThriftNode y = Asm.sealed(PendingLimitTest.fullAttempt(Asm.end(0)));
        Asm.stepsAndCut(y, PendingLimitTest.STEPS + 1 + 81, 500);
        Asm.words(y, "where and what", 158, 13, 1, 0, 0, 1, 1);
        Asm.wears(y, "40 entries", 83, Asm.join(Asm.code(0), Asm.times(80, 1)));
        Due.is("MARK", y.kept(Asm.MARK, false), 40);
    }

    private static void lastInstructionOfTheLastTask() {
        ThriftNode x = new ThriftNode();
        Asm.write(x, 0, Asm.end(15));
        Asm.write(x, 15, Asm.join(Asm.times(31, Asm.add(0, 0, 0)), Asm.code(Asm.go(31))));
        Due.is("program(15, 32, 0)", x.program(15, 32, 0), false);
        Due.is("program(16, 0, 0)", x.program(16, 0, 0), false);
        Due.is("program(-1, 0, 0)", x.program(-1, 0, 0), false);
        Due.is("seal()", x.seal(), 0);
        Asm.slots(x, 3, 500, 16);
        Due.is("TASK", x.kept(Asm.TASK, false), 15);
        Due.is("the last one is next: state(5)", x.state(5), 31);
    }

    private static void bytesHaveNoSign() {
        for (int op : new int[] {18, 127, 128, 255}) {
            ThriftNode x = new ThriftNode();
            Asm.write(x, 0, op << 24, Asm.end(0));
            Due.is("OP " + op + ": seal()", x.seal(), 1);
        }
        ThriftNode x = Asm.ran(Asm.word(1, 0, 127, 255), Asm.word(1, 1, 0, 255), Asm.word(1, 2, 0, 128),
            Asm.word(1, 3, 128, 0));
        Asm.registers(x, "b and c", 32767, 255, 128, -32768);
        ThriftNode y = Asm.sealed(Asm.code(Asm.bind(), Asm.bound(128), Asm.go(1)));
        Asm.slots(y, 129, 100, 16);
        Due.is("a 128 is above 0: state(8)", y.state(8), 0);
        Asm.slots(y, 1, 100, 16);
        Due.is("129 above: state(8)", y.state(8), 1);
    }

    private static void firstAndLastRegister() {
        ThriftNode x = Asm.ran(Asm.set(0, 3), Asm.set(7, 4), Asm.add(6, 0, 7));
        Asm.registers(x, "first and last", 3, 0, 0, 0, 0, 0, 7, 4);
        Due.is("register(8)", x.register(8), 0);
        Due.is("register(-1)", x.register(-1), 0);
    }

    /** With 60 and the cost the first instruction is done, and the next step is not. */
    private static void justEnoughForEachOp() {
        int[] costs = {1, 1, 1, 1, 4, 1, 1, 1, 2, 2, 2, 2, 3, 3, 10, 3, 1, 1};
        for (int op = 0; op < costs.length; op++) {
            ThriftNode x = Asm.sealed(Asm.code(op << 24, Asm.go(1)));
            Due.is("OP " + op + ", one too few", x.slot(59 + costs[op]), 0);
            Asm.states(x, "OP " + op + ", one too few", Asm.OFF, costs[op] - 1);
            ThriftNode y = Asm.sealed(Asm.code(op << 24, Asm.go(1)));
            Due.is("OP " + op + ", just enough", y.slot(60 + costs[op]), 1);
            Asm.states(y, "OP " + op + ", just enough", Asm.OFF, 0);
            Due.is("OP " + op + ": twice what it SPENT", y.task(0, 0), 2 * costs[op]);
        }
    }
}
