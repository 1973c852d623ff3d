/** The boundaries that the terms name for STEPS: what they cost, the cut, REPLAY, AIR and RUN. */
final class StepEdges {
    private static final int[] SENDS_ONE = {Asm.send(0), Asm.end(0)};

    private StepEdges() {
    }

    static void all() {
        Edge.of("With a cost above the ENERGY it is not done: the power FAILS. Else the cost is paid, and it is done.",
            StepEdges::instructionThatJustCanBePaid, StepEdges::commitStepThatJustCanBePaid,
            StepEdges::replayStepThatJustCanBePaid, StepEdges::frameThatJustCanBePaid,
            StepEdges::noteThatJustCanBePaid);
        Edge.of("If cut() was told n: of the STEPS that are done from then on the power FAILS behind the n-th one.",
            StepEdges::behindTheFirst, StepEdges::behindTheLastOfASlot, StepEdges::stepsThatAreNotDone,
            StepEdges::fromThenOn, StepEdges::overAFailure, StepEdges::behindTheLastOfAnAttempt);
        Edge.of("REPLAY (4): the first entry of the LIST, of the first MARK ones, that was not applied since the boot: "
            + "its word is written;", StepEdges::fromTheFirstOneAtEachBoot, StepEdges::justTheMarkedOnes,
            StepEdges::fortyEntries);
        Edge.of("if there is none: MARK is written 0, and the PHASE is AIR.", StepEdges::endOfTheReplay);
        Edge.of("AIR: if SENT is below NUMBER: (20) frame SENT is put on the air; the next STEP (4) writes SENT, one "
            + "more; and so on.", StepEdges::oneFrame, StepEdges::sixteenFrames, StepEdges::againIfNotNoted,
            StepEdges::notAgainOnceNoted);
        Edge.of("If SENT is NUMBER there is no STEP: the attempt begins: RUN, all REGISTERS are 0, the first instruction"
            + " of TASK is next, nothing is PENDING, no BIND; what it SPENDS is counted from here on; and the STEP is "
            + "that of RUN.", StepEdges::noFrame, StepEdges::anewBehindAFailure, StepEdges::anewBehindACommit,
            StepEdges::spentFromHereOn, StepEdges::firstInstructionThatCannotBePaid);
        Edge.of("RUN (its cost): the next instruction.", StepEdges::oneInstructionForAStep);
        Edge.of("END: the PHASE is COMMIT.", StepEdges::endAsTheLastStepOfASlot);
        Edge.of("ABANDONED: the PHASE is AIR (nothing is kept, no FAILURE).", StepEdges::abandonedAsTheLastStep,
            StepEdges::abandonedAndCut, StepEdges::abandonedOften);
    }

    private static void instructionThatJustCanBePaid() {
        int[] code = Asm.code(Asm.set(0, 3), Asm.mul(0, 0, 0), Asm.go(2));
        ThriftNode x = Asm.sealed(code);
        Due.is("4 asked, 3 left", x.slot(60 + 1 + 3), 1);
        Asm.states(x, "not done", Asm.OFF, 3, 1, 0, 0, 0, -1, 1);
        Asm.task(x, "twice what was SPENT", 0, 2, 1);
        ThriftNode y = Asm.sealed(code);
        Due.is("4 asked, 4 left", y.slot(60 + 1 + 4), 2);
        Asm.states(y, "done", Asm.OFF, 0, 1, 0, 0, 0, -1, 1);
        Asm.task(y, "twice what was SPENT", 0, 10, 1);
    }

    private static void commitStepThatJustCanBePaid() {
        ThriftNode x = Asm.sealed(Asm.code(Asm.end(0)));
        Due.is("4 asked, 3 left", x.slot(60 + 1 + 3), 1);
        Asm.wears(x, "not done", Asm.LIST, 0, 0);
        Due.is("state(1)", x.state(1), 3);
        ThriftNode y = Asm.sealed(Asm.code(Asm.end(0)));
        Due.is("4 asked, 4 left", y.slot(60 + 1 + 4), 2);
        Asm.wears(y, "done", Asm.LIST, 1, 0);
        Due.is("state(1)", y.state(1), 0);
        ThriftNode z = Asm.sealed(Asm.code(Asm.end(0)));
        Due.is("the last one: 4 asked, 3 left", z.slot(60 + 33 - 1), 8);
        Asm.words(z, "MARK is not yet 0", Asm.MARK, 2);
        Asm.task(z, "not over, and no failure", 0, 0, 0);
        Due.is("the replay needs three", z.slot(57 + 12), 3);
        Asm.words(z, "MARK is 0", Asm.MARK, 0);
    }

    /** END, four words and MARK are done, and all is spent: OFF with a list to replay. */
    private static ThriftNode marked() {
        ThriftNode x = Asm.sealed(Asm.code(Asm.end(0)));
        Due.is("slot(81)", x.slot(60 + 1 + 5 * 4), 6);
        Asm.states(x, "marked", Asm.OFF, 0, 1, 0, 0, 0, -1, 1);
        Due.is("MARK", x.kept(Asm.MARK, false), 2);
        return x;
    }

    private static void replayStepThatJustCanBePaid() {
        ThriftNode x = marked();
        Due.is("4 asked, 3 left", x.slot(63), 0);
        Asm.states(x, "not done", Asm.OFF, 3, 2, 0, 0, 0, -1, 2);
        Asm.wears(x, "not done", 0, 0, 0, 1);
        ThriftNode y = marked();
        Due.is("4 asked, 4 left", y.slot(64), 1);
        Asm.states(y, "done", Asm.OFF, 0, 2, 0, 0, 0, -1, 2);
        Asm.wears(y, "done", 0, 1, 0, 1);
        ThriftNode z = marked();
        Due.is("the last one: 4 asked, 3 left", z.slot(60 + 11), 2);
        Asm.words(z, "MARK is not yet 0", 0, 0, 1, 2);
        Asm.task(z, "no failure", 0, 0, 0);
        ThriftNode w = marked();
        Due.is("the last one: 4 asked, 4 left", w.slot(60 + 12), 3);
        Asm.words(w, "MARK is 0", 0, 0, 1, 0);
    }

    /** Two in RUN and 14 in COMMIT: the frame is committed, the slot is over, and all is spent. */
    private static ThriftNode withAFrame() {
        ThriftNode x = Asm.sealed(SENDS_ONE);
        Due.is("slot(120)", x.slot(60 + 4 + 56), 16);
        Asm.states(x, "committed", Asm.AIR, 0, 1, 0, 0, 0, -1, 0, 0, 0);
        return x;
    }

    private static void frameThatJustCanBePaid() {
        ThriftNode x = withAFrame();
        Due.is("20 asked, 19 left", x.slot(19), 0);
        Asm.states(x, "not on the air", Asm.OFF, 19, 2, 0, 0, 0, -1, 1, 0, 0);
        ThriftNode y = withAFrame();
        Due.is("20 asked, 20 left", y.slot(20), 1);
        Asm.states(y, "on the air", Asm.OFF, 0, 2, 0, 0, 0, -1, 1, 0, 1);
        Due.is("not noted: SENT", y.kept(Asm.SENT, false), 0);
        Asm.task(y, "no failure", 0, 60, 0);
    }

    private static void noteThatJustCanBePaid() {
        ThriftNode x = withAFrame();
        Due.is("4 asked, 3 left", x.slot(23), 1);
        Asm.states(x, "not noted", Asm.OFF, 3, 2, 0, 0, 0, -1, 1, 0, 1);
        Due.is("SENT", x.kept(Asm.SENT, false), 0);
        Asm.task(x, "no failure", 0, 60, 0);
        ThriftNode y = withAFrame();
        Due.is("4 asked, 4 left", y.slot(24), 2);
        Asm.states(y, "noted", Asm.OFF, 0, 2, 0, 0, 0, -1, 1, 0, 1);
        Due.is("SENT", y.kept(Asm.SENT, false), 1);
        Asm.task(y, "the attempt began", 0, 120, 1);
    }

    private static ThriftNode spinning() {
        return Asm.sealed(Asm.code(Asm.go(0)));
    }

    /** The step itself is done: its word is written. */
    private static void behindTheFirst() {
        ThriftNode x = Asm.sealed(PendingLimitTest.fullAttempt(Asm.end(0)));
        Asm.slots(x, 5, 500, 16);
        Due.is("COMMIT", x.state(0), Asm.COMMIT);
        int at = Asm.LIST + 5 * 16 - PendingLimitTest.STEPS - 1;
        Due.is("before", x.kept(at, true), 0);
        x.cut(1);
        Due.is("slot(0)", x.slot(0), 1);
        Due.is("done", x.kept(at, true), 1);
        Due.is("the next one is not", x.kept(at + 1, true), 0);
        Due.is("OFF", x.state(0), Asm.OFF);
    }

    private static void behindTheLastOfASlot() {
        for (int n : new int[] {15, 16, 17, 32, 33}) {
            ThriftNode x = spinning();
            Asm.stepsAndCut(x, n, 500);
            Due.is("cut(" + n + "): slots", x.state(2), (n + 15) / 16);
            Due.is("cut(" + n + "): state(7)", x.state(7), 1);
            Asm.task(x, "cut(" + n + ")", 0, 2 * n, 1);
        }
    }

    /** A step that can't be paid and a slot that stays OFF do not count. */
    private static void stepsThatAreNotDone() {
        ThriftNode x = Asm.sealed(Asm.code(Asm.mul(0, 0, 0), Asm.go(0)));
        x.cut(3);
        Due.is("slot(59)", x.slot(59), -1);
        Due.is("two are done, one is not", x.slot(1 + 5 + 3), 2);
        Due.is("state(7)", x.state(7), 1);
        Due.is("slot(0)", x.slot(0), -1);
        Due.is("the third one", x.slot(500), 1);
        Due.is("state(7)", x.state(7), 2);
    }

    private static void fromThenOn() {
        ThriftNode x = spinning();
        x.slot(500);
        x.cut(3);
        Due.is("slot(0)", x.slot(0), 3);
        Due.is("state(7)", x.state(7), 1);
        Asm.slots(x, 20, 100, 16);
        Due.is("no second time: state(7)", x.state(7), 1);
    }

    /** What was told is not the node's, so it outlives a failure. */
    private static void overAFailure() {
        ThriftNode x = spinning();
        x.cut(20);
        Due.is("slot(65)", x.slot(65), 5);
        Due.is("state(7)", x.state(7), 1);
        Due.is("slot(500)", x.slot(500), 15);
        Asm.states(x, "5 and 15", Asm.OFF, 425, 2, 0, 0, 0, -1, 2);
    }

    /** The commit is over with that step: no failure of a task. */
    private static void behindTheLastOfAnAttempt() {
        ThriftNode x = Asm.sealed(Asm.code(Asm.end(1)), Asm.code(Asm.end(0)));
        Asm.stepsAndCut(x, 9, 500);
        Asm.words(x, "over", 0, 1, 1, 0);
        Asm.task(x, "over", 0, 33, 0);
        Asm.task(x, "not begun", 1, 0, 0);
        ThriftNode y = Asm.sealed(Asm.code(Asm.end(1)), Asm.code(Asm.end(0)));
        Asm.stepsAndCut(y, 8, 500);
        Asm.words(y, "one less", 0, 1, 1, 2);
        Asm.task(y, "one less", 0, 0, 0);
        Asm.task(y, "one less", 1, 0, 0);
    }

    private static void fromTheFirstOneAtEachBoot() {
        ThriftNode x = Asm.sealed(Asm.code(Asm.end(1)), Asm.code(Asm.end(0)));
        Asm.stepsAndCut(x, 6, 500);
        for (int k = 1; k <= 4; k++) {
            Asm.stepsAndCut(x, 1, 500);
            Asm.wears(x, "boot " + k, 0, k, 0, 1);
        }
        Asm.stepsAndCut(x, 2, 500);
        Asm.wears(x, "both", 0, 5, 1, 1);
        Asm.stepsAndCut(x, 3, 500);
        Asm.wears(x, "to its end", 0, 6, 2, 2);
        Asm.words(x, "to its end", 0, 1, 1, 0);
    }

    private static void justTheMarkedOnes() {
        ThriftNode x = Asm.sealed(Asm.code(Asm.set(0, 9), Asm.put(0, 0), Asm.end(1)), Asm.code(Asm.end(1)));
        // What is left of the longer list behind the two entries: COMMITS 1.
        Asm.stepsAndCut(x, 3 + Asm.commit(1) + 6, 500);
        Asm.words(x, "marked", Asm.MARK, 2);
        Asm.words(x, "the list", Asm.LIST, 0, 1, 1, 2, 1, 1);
        Asm.stepsAndCut(x, 3, 500);
        Asm.words(x, "COMMITS is 2 and not 1", 0, 1, 2, 0);
        Asm.wears(x, "the third entry was not written", 0, 2, 2, 4);
    }

    private static void fortyEntries() {
        ThriftNode x = Asm.sealed(PendingLimitTest.fullAttempt(Asm.end(1)), Asm.code(Asm.go(0)));
        Asm.stepsAndCut(x, PendingLimitTest.STEPS + 1 + 81, 500);
        Asm.wears(x, "none is applied", Asm.ROWS, new int[32]);
        Asm.stepsAndCut(x, 40, 500);
        Asm.words(x, "all are applied", 0, 1, 1, 40);
        Asm.wears(x, "all are applied", Asm.ROWS, Asm.times(32, 1));
        Asm.stepsAndCut(x, 41, 500);
        Asm.words(x, "and MARK is 0", 0, 1, 1, 0);
        Asm.wears(x, "twice", Asm.ROWS, Asm.times(32, 2));
    }

    private static void endOfTheReplay() {
        ThriftNode x = Asm.sealed(Asm.code(Asm.send(0), Asm.end(1)), Asm.code(Asm.go(0)));
        Asm.stepsAndCut(x, 2 + 8 + 1, 500);
        Asm.stepsAndCut(x, 4, 500);
        Asm.words(x, "all are applied", Asm.MARK, 4, 1, 0);
        Asm.stepsAndCut(x, 5, 500);
        Asm.words(x, "MARK is 0", Asm.MARK, 0, 1, 0);
        Asm.wears(x, "MARK was written twice", Asm.MARK, 2);
        Due.is("nothing on the air yet", x.state(9), 0);
        Asm.task(x, "the replay is no attempt", 0, 0, 0);
        Asm.stepsAndCut(x, 1, 500);
        Due.is("no replay: the frame", x.state(9), 1);
    }

    private static void oneFrame() {
        ThriftNode x = withAFrame();
        x.cut(1);
        Due.is("slot(500)", x.slot(500), 1);
        Due.is("20: state(1)", x.state(1), 480);
        Asm.words(x, "on the air", Asm.NUMBER, 1, 0);
        ThriftNode y = withAFrame();
        y.cut(2);
        Due.is("slot(500)", y.slot(500), 2);
        Due.is("24: state(1)", y.state(1), 476);
        Asm.words(y, "noted", Asm.NUMBER, 1, 1);
        Due.is("state(9)", y.state(9), 1);
    }

    /** 16 frames at once: 32 steps, and then an instruction. */
    private static void sixteenFrames() {
        ThriftNode x = Asm.sealed(
            Asm.code(Asm.set(1, 1), Asm.send(0), Asm.zero(7, 5), Asm.add(0, 0, 1), Asm.go(1), Asm.end(1)),
            Asm.code(Asm.go(0)));
        int steps = 1 + 16 * 4 + 2 + 1 + Asm.commit(17);
        Asm.stepsAndCut(x, steps, 500);
        Asm.words(x, "committed", Asm.NUMBER, 16, 0);
        Asm.stepsAndCut(x, 31, 500);
        Asm.words(x, "the last one is on the air", Asm.NUMBER, 16, 15);
        Due.is("state(9)", x.state(9), 16);
        Asm.stepsAndCut(x, 2, 500);
        Asm.words(x, "and noted", Asm.NUMBER, 16, 16);
        Due.is("with a repeat: state(9)", x.state(9), 17);
        Asm.stepsAndCut(x, 1, 500);
        Asm.task(x, "then an instruction", 1, 2, 1);
    }

    private static void againIfNotNoted() {
        ThriftNode x = Frames.cutWithFrameOnAir(7);
        Frames.repeat(x);
        Due.is("aired(0, 0)", x.aired(0, 0), 7);
        Due.is("aired(1, 0)", x.aired(1, 0), 7);
        Due.is("aired(2, 0)", x.aired(2, 0), 6);
        Due.is("SENT", x.kept(Asm.SENT, false), 7);
    }

    private static void notAgainOnceNoted() {
        ThriftNode x = Frames.node();
        Asm.stepsAndCut(x, Frames.stepsToAir(6) + 1, 500);
        Due.is("SENT", x.kept(Asm.SENT, false), 7);
        Asm.stepsAndCut(x, 1, 500);
        Due.is("aired(0, 0)", x.aired(0, 0), 7);
        Due.is("aired(1, 0)", x.aired(1, 0), 6);
        Asm.stepsAndCut(x, 2, 500);
        Due.is("SENT", x.kept(Asm.SENT, false), 8);
        Asm.stepsAndCut(x, 1, 500);
        Due.is("no frame is left: state(9)", x.state(9), 9);
        Due.is("an attempt failed", x.task(0, 1), 1);
    }

    /** The first step behind the boot is an instruction already, and so is the one behind a commit. */
    private static void noFrame() {
        ThriftNode x = Asm.sealed(Asm.held(Asm.set(0, 9)));
        x.slot(500);
        Asm.states(x, "in RUN", Asm.RUN, 424, 1, 16, 0, 1);
        ThriftNode y = Asm.sealed(Asm.code(Asm.end(1)), Asm.held(Asm.set(0, 9)));
        y.slot(500);
        Asm.states(y, "9 and 7", Asm.RUN, 440 - 33 - 7, 1, 7, 0, 1);
        Due.is("register(0)", y.register(0), 9);
    }

    private static void anewBehindAFailure() {
        ThriftNode x = Asm.sealed(Asm.code(Asm.put(0, 0), Asm.bound(0), Asm.bind(), Asm.set(0, 9), Asm.set(7, 9),
            Asm.go(5)));
        for (int k = 0; k < 3; k++) {
            Due.is("slot(500)", x.slot(500), 16);
            Asm.registers(x, "set", 9, 0, 0, 0, 0, 0, 0, 9);
            Asm.states(x, "its own", Asm.RUN, x.state(1), 2 * k + 1, 17, 1, 5, -1, k, 0);
            x.cut(1);
            x.slot(0);
        }
    }

    private static void anewBehindACommit() {
        // The cells take what registers 0 and 7 are at the begin.
        ThriftNode x = Asm.sealed(Asm.code(Asm.put(0, 0), Asm.put(7, 1), Asm.bound(0), Asm.bind(), Asm.set(0, 9),
            Asm.set(7, 9), Asm.end(0)));
        Asm.stepsAndCut(x, 4 * (7 + Asm.commit(2)), 500);
        Asm.words(x, "four commits", Asm.COMMITS, 4);
        Asm.words(x, "zeros", Asm.CELLS, 0, 0);
        Asm.wears(x, "in each of them", Asm.CELLS, 4, 4);
        Due.is("state(8)", x.state(8), 0);
    }

    /** Neither the boot nor the replay nor the air is SPENT by the attempt. */
    private static void spentFromHereOn() {
        ThriftNode x = withAFrame();
        x.slot(500);
        // 2 in AIR, 2 in RUN, 12 in COMMIT.
        Asm.states(x, "behind a frame", Asm.COMMIT, 500 - 24 - 4 - 48, 2, 4 + 48, 2, 0);
        ThriftNode y = marked();
        y.slot(500);
        // 3 in REPLAY, 9 for an attempt, END and 3 in COMMIT.
        Asm.states(y, "behind a replay", Asm.COMMIT, 440 - 12 - 33 - 13, 2, 13, 0, 0);
        Asm.task(y, "just its own", 0, 33, 0);
    }

    /** Without a step of its own the attempt has begun: its failure counts. */
    private static void firstInstructionThatCannotBePaid() {
        ThriftNode x = Asm.sealed(Asm.code(Asm.sense(0, 0), Asm.go(0)));
        Due.is("slot(69)", x.slot(69), 0);
        Asm.task(x, "nothing was SPENT", 0, 0, 1);
        Asm.states(x, "OFF", Asm.OFF, 9, 1, 0, 0, 0, -1, 1);
    }

    private static void oneInstructionForAStep() {
        ThriftNode x = Asm.sealed(Asm.join(Asm.times(16, Asm.sense(0, 0)), Asm.code(Asm.go(16))));
        Due.is("slot(500)", x.slot(500), 16);
        Asm.states(x, "the dearest ones", Asm.RUN, 280, 1, 160, 0, 16);
    }

    private static void endAsTheLastStepOfASlot() {
        ThriftNode x = Asm.sealed(Asm.join(Asm.times(15, Asm.set(7, 4)), Asm.code(Asm.end(0))));
        x.slot(500);
        Asm.states(x, "COMMIT", Asm.COMMIT, 424, 1, 16, 0, 0);
        Asm.wears(x, "nothing is written yet", 0, 0, 0, 0);
        Asm.wears(x, "nor in the list", Asm.LIST, 0, 0);
        Due.is("register(7)", x.register(7), 4);
        ThriftNode y = Asm.sealed(Asm.join(Asm.times(16, Asm.set(7, 4)), Asm.code(Asm.end(0))));
        y.slot(500);
        Asm.states(y, "one before", Asm.RUN, 424, 1, 16, 0, 16);
    }

    /** Has a word pending and a frame, and abandons by its 32nd step. */
    private static ThriftNode abandoning() {
        return Asm.sealed(Asm.join(Asm.code(Asm.go(3), Asm.bound(0), Asm.go(1), Asm.bind(), Asm.set(0, 9),
            Asm.put(0, 0), Asm.send(0)), Asm.times(24, Asm.add(1, 0, 0)), Asm.code(Asm.go(2))));
    }

    private static void abandonedAsTheLastStep() {
        ThriftNode x = abandoning();
        x.slot(500);
        Asm.states(x, "RUN", Asm.RUN, 440 - 19, 1, 19, 3, 18, -1, 0, 0, 0);
        x.slot(0);
        Asm.states(x, "AIR", Asm.AIR, 440 - 35, 2, 0, 0, 0, -1, 0, 1, 0);
        Asm.words(x, "nothing is kept", 0, new int[84]);
        Asm.wears(x, "nothing is kept", 0, new int[84]);
        Asm.task(x, "no failure", 0, 0, 0);
        Asm.registers(x, "no attempt", new int[8]);
        x.slot(0);
        Asm.states(x, "the next attempt", Asm.RUN, 440 - 54, 3, 19, 3, 18, -1, 0, 1, 0);
    }

    private static void abandonedAndCut() {
        ThriftNode x = abandoning();
        Asm.stepsAndCut(x, 32, 500);
        Asm.states(x, "cut behind it", Asm.OFF, 940 - 35, 2, 0, 0, 0, -1, 1, 1, 0);
        Asm.task(x, "no failure", 0, 0, 0);
        ThriftNode y = abandoning();
        Asm.stepsAndCut(y, 31, 500);
        Asm.states(y, "cut before it", Asm.OFF, 940 - 34, 2, 0, 0, 0, -1, 1, 0, 0);
        Asm.task(y, "a failure", 0, 68, 1);
    }

    /** Twelve times and more: that gives no task up. */
    private static void abandonedOften() {
        ThriftNode x = Asm.sealed(Asm.code(Asm.bind(), Asm.bound(0), Asm.go(1)));
        Asm.slots(x, 40, 100, 16);
        Due.is("state(8)", x.state(8), 39);
        Asm.task(x, "no failure", 0, 0, 0);
        Due.is("state(6)", x.state(6), -1);
    }
}
