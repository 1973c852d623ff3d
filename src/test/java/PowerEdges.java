/** The boundaries that the terms name for THE POWER FAILS. */
final class PowerEdges {
    private static final int[] EIGHT = {Asm.set(0, 1), Asm.set(1, 1), Asm.set(2, 1), Asm.set(3, 1), Asm.set(4, 1),
        Asm.set(5, 1), Asm.set(6, 1), Asm.set(7, 1)};

    private PowerEdges() {
    }

    static void all() {
        Edge.of("THE POWER FAILS: OFF; all but kept words is gone (REGISTERS are 0).", PowerEdges::inRun,
            PowerEdges::inCommit, PowerEdges::inReplay, PowerEdges::inAir);
        Edge.of("In RUN, or in COMMIT with MARK 0: the FAILURES of TASK grow by 1, its ESTIMATE becomes twice the greater"
            + " of it and what the attempt SPENT, at most 1940;", PowerEdges::beforeAndBehindMark,
            PowerEdges::noFailureInReplayOrAir, PowerEdges::twiceTheGreater, PowerEdges::just1940,
            PowerEdges::above1940, PowerEdges::downTo1940, PowerEdges::failuresOfTask);
        Edge.of("with 12 FAILURES the task is GIVEN UP: the node stays OFF.", PowerEdges::elevenAndTwelve,
            PowerEdges::twelveOfTwoTasks, PowerEdges::staysOff);
    }

    private static void gone(ThriftNode x, String when, int failed) {
        Asm.states(x, when, Asm.OFF, x.state(1), x.state(2), 0, 0, 0, -1, failed);
        Asm.registers(x, when, new int[8]);
    }

    private static void inRun() {
        ThriftNode x = Asm.sealed(Asm.held(Asm.join(EIGHT, Asm.code(Asm.put(0, 0)))));
        x.slot(500);
        x.cut(1);
        x.slot(0);
        gone(x, "RUN", 1);
        // The same without a cut: 16 steps and nothing left.
        ThriftNode y = Asm.sealed(Asm.held(Asm.join(EIGHT, Asm.code(Asm.put(0, 0)))));
        Due.is("slot(77)", y.slot(77), 16);
        Due.is("register(7)", y.register(7), 1);
        Due.is("slot(0)", y.slot(0), 0);
        gone(y, "RUN without energy", 1);
    }

    private static void inCommit() {
        int[] code = Asm.join(EIGHT, Asm.code(Asm.put(0, 0), Asm.end(0)));
        for (int steps = 1; steps < Asm.commit(1); steps++) {
            ThriftNode x = Asm.sealed(code);
            Asm.stepsAndCut(x, 10 + steps, 500);
            gone(x, "COMMIT behind " + steps, 1);
        }
    }

    private static void inReplay() {
        ThriftNode x = Asm.sealed(PendingLimitTest.fullAttempt(Asm.end(0)));
        Asm.stepsAndCut(x, PendingLimitTest.STEPS + 1 + 81, 500);
        Asm.stepsAndCut(x, 20, 500);
        gone(x, "REPLAY", 2);
        Asm.words(x, "kept", 0, 0, 0, 40);
        Asm.words(x, "the list is kept", 158, 13, 1, 0, 0, 1, 1);
        // How far the replay came is gone: the first word is written a third time when the second comes to its turn.
        Asm.stepsAndCut(x, 1, 500);
        Asm.wears(x, "from the first entry on", Asm.ROWS, 2);
    }

    private static void inAir() {
        ThriftNode x = Frames.cutWithFrameOnAir(3);
        gone(x, "AIR", 1);
        // That the note is due is gone.
        Frames.repeat(x);
        Due.is("aired(0, 0)", x.aired(0, 0), 3);
        Due.is("SENT", x.kept(Asm.SENT, false), 3);
    }

    private static void beforeAndBehindMark() {
        // END, four words; MARK; two words; MARK again.
        for (int steps = 1; steps <= 9; steps++) {
            ThriftNode x = Asm.sealed(Asm.code(Asm.end(0)));
            Asm.stepsAndCut(x, steps, 500);
            boolean fails = steps < 6;
            Asm.task(x, "behind " + steps, 0, fails ? 2 * (1 + 4 * (steps - 1)) : steps == 9 ? 33 : 0, fails ? 1 : 0);
        }
    }

    private static void noFailureInReplayOrAir() {
        ThriftNode x = Asm.sealed(Asm.code(Asm.send(0), Asm.end(0)));
        Asm.stepsAndCut(x, 2 + 9, 500);
        // Four entries, and never the step that writes MARK.
        for (int k = 0; k < 15; k++) {
            Asm.stepsAndCut(x, 1 + k % 4, 500);
            Asm.task(x, "REPLAY", 0, 0, 0);
        }
        Due.is("state(7)", x.state(7), 16);
        ThriftNode y = Frames.cutWithFrameOnAir(0);
        int estimate = y.task(0, 0);
        for (int k = 0; k < 15; k++) {
            Frames.repeat(y);
        }
        Asm.task(y, "AIR", 0, estimate, 0);
        Due.is("state(6)", y.state(6), -1);
    }

    private static void twiceTheGreater() {
        ThriftNode x = Asm.sealed(Asm.code(Asm.go(0)));
        Asm.stepsAndCut(x, 5, 500);
        Asm.task(x, "5 SPENT, 0 before", 0, 10, 1);
        Asm.stepsAndCut(x, 9, 500);
        Asm.task(x, "9 SPENT, 10 before", 0, 20, 2);
        Asm.stepsAndCut(x, 20, 500);
        Asm.task(x, "20 SPENT, 20 before", 0, 40, 3);
        Asm.stepsAndCut(x, 41, 500);
        Asm.task(x, "41 SPENT, 40 before", 0, 82, 4);
        ThriftNode y = Asm.sealed(Asm.code(Asm.go(0)));
        Due.is("slot(60)", y.slot(60), 0);
        Asm.task(y, "0 SPENT, 0 before", 0, 0, 1);
    }

    private static void just1940() {
        // Rounds of 15: 64 of them are 960.
        int[] code = Asm.code(Asm.sense(0, 0), Asm.mul(0, 0, 0), Asm.go(0));
        ThriftNode x = Asm.sealed(code);
        Asm.stepsAndCut(x, 3 * 64 + 1, 500);
        Asm.task(x, "970 SPENT", 0, 1940, 1);
        ThriftNode y = Asm.sealed(Asm.join(Asm.code(Asm.bind()), Asm.code(Asm.sense(0, 0), Asm.mul(0, 0, 0),
            Asm.go(1))));
        Asm.stepsAndCut(y, 1 + 3 * 64 + 1, 500);
        Asm.task(y, "971 SPENT", 0, 1940, 1);
        ThriftNode z = Asm.sealed(Asm.code(Asm.mul(0, 0, 0), Asm.mul(0, 0, 0), Asm.bind(), Asm.sense(0, 0),
            Asm.mul(0, 0, 0), Asm.go(3)));
        Asm.stepsAndCut(z, 3 + 3 * 64, 500);
        Asm.task(z, "969 SPENT", 0, 1938, 1);
    }

    private static void above1940() {
        // Rounds of 101: 9 of them are 909.
        ThriftNode x = Asm.sealed(Asm.join(Asm.times(10, Asm.sense(0, 0)), Asm.code(Asm.go(0))));
        Asm.stepsAndCut(x, 99, 500);
        Asm.task(x, "909 SPENT", 0, 1818, 1);
        for (int k = 2; k <= 4; k++) {
            failOnce(x);
            Asm.task(x, "twice that is more", 0, 1940, k);
        }
    }

    /** Waits for enough, and fails behind one step. */
    private static void failOnce(ThriftNode x) {
        x.cut(1);
        int done = -1;
        for (int k = 0; k < 10 && done < 0; k++) {
            done = x.slot(500);
        }
        Due.is("one step", done, 1);
    }

    /** A commit may bring an ESTIMATE above 1940; the next failure brings it down to that. */
    private static void downTo1940() {
        ThriftNode x = Asm.sealed(Asm.join(Asm.code(Asm.set(1, 20), Asm.set(2, 1)), Asm.times(12, Asm.sense(0, 0)),
            Asm.code(Asm.sub(1, 1, 2), Asm.zero(1, 17), Asm.go(2), Asm.end(0))));
        Asm.stepsAndCut(x, 2 + 20 * 14 + 19 + 1 + 8, 500);
        Asm.task(x, "came through", 0, 2494, 0);
        failOnce(x);
        Asm.task(x, "failed", 0, 1940, 1);
    }

    private static void failuresOfTask() {
        ThriftNode x = Asm.sealed(Asm.code(Asm.end(15)), Asm.code(), Asm.code(), Asm.code(), Asm.code(), Asm.code(),
            Asm.code(), Asm.code(), Asm.code(), Asm.code(), Asm.code(), Asm.code(), Asm.code(), Asm.code(), Asm.code(),
            Asm.code(Asm.go(0)));
        Asm.stepsAndCut(x, 10, 500);
        for (int t = 0; t < 16; t++) {
            Asm.task(x, "task 15 failed", t, t == 0 ? 33 : t == 15 ? 2 : 0, t == 15 ? 1 : 0);
        }
    }

    private static void elevenAndTwelve() {
        ThriftNode x = Asm.sealed(Asm.code(Asm.go(0)));
        for (int k = 1; k <= 11; k++) {
            Due.is("slot(60)", x.slot(60), 0);
        }
        Asm.task(x, "eleven", 0, 0, 11);
        Due.is("state(6)", x.state(6), -1);
        Due.is("it still boots: slot(60)", x.slot(60), 0);
        Asm.task(x, "twelve", 0, 0, 12);
        Due.is("state(6)", x.state(6), 0);
        Due.is("slot(500)", x.slot(500), -1);
    }

    /** Eleven of each task are no twelve. */
    private static void twelveOfTwoTasks() {
        ThriftNode x = Asm.sealed(Asm.code(Asm.end(1)), Asm.code(Asm.bind(), Asm.end(0)));
        for (int k = 0; k < 11; k++) {
            Due.is("slot(60)", x.slot(60), 0);
        }
        Asm.task(x, "eleven", 0, 0, 11);
        // Task 0 comes through, and the first instruction of task 1 can't be paid.
        Due.is("slot(93)", x.slot(93), 9);
        Asm.task(x, "came through", 0, 33, 0);
        for (int k = 1; k <= 11; k++) {
            Asm.task(x, "task 1", 1, 0, k);
            Due.is("state(6)", x.state(6), -1);
            Due.is("slot(60)", x.slot(60), 0);
        }
        Asm.task(x, "task 1", 1, 0, 12);
        Due.is("state(6)", x.state(6), 1);
        Due.is("state(7)", x.state(7), 23);
    }

    private static void staysOff() {
        ThriftNode x = Asm.sealed(Asm.code(Asm.go(0)));
        Asm.slots(x, 12, 60, 0);
        x.cut(0);
        Due.is("seal()", x.seal(), 0);
        for (int k = 1; k <= 30; k++) {
            Due.is("slot(500)", x.slot(500), -1);
            Asm.states(x, "given up", Asm.OFF, Math.min(2000, 500 * k), 12 + k, 0, 0, 0, 0, 12);
        }
        Asm.task(x, "given up", 0, 0, 12);
    }
}
