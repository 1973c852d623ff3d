/** The boundaries that the terms name for ENERGY and for A SLOT. */
final class SlotEdges {
    private SlotEdges() {
    }

    static void all() {
        Edge.of("ENERGY: 0 .. 2000, 0 at first.", SlotEdges::noneAtFirst, SlotEdges::downToNothing,
            SlotEdges::upToTheMost);
        Edge.of("PHASES: 0 OFF, 1 REPLAY, 2 AIR, 3 RUN, 4 COMMIT.", SlotEdges::eachPhase);
        Edge.of("Each task has an ESTIMATE (0 at first) and FAILURES (0).", SlotEdges::tasksAtFirst);
        Edge.of("A SLOT: what is harvested is added to the ENERGY, up to 2000;", SlotEdges::justTheMost,
            SlotEdges::addedBeforeTheBoot, SlotEdges::addedBeforeTheSteps);
        Edge.of("the number of the slot grows by 1 (1 is the first one).", SlotEdges::numbersOfSlots);
        Edge.of("If it is OFF, and no task is GIVEN UP, and the ENERGY is at least 60 more than the ESTIMATE of the task"
            + " in TASK (2000, if that comes to more): it boots:", SlotEdges::sixty, SlotEdges::sixtyMore,
            SlotEdges::theEstimateOfTheTaskInTask, SlotEdges::anEstimateOf1940, SlotEdges::anEstimateAbove1940,
            SlotEdges::givenUp);
        Edge.of("60 less ENERGY; the PHASE is REPLAY if MARK is not 0, else AIR.", SlotEdges::theBootIsPaid,
            SlotEdges::replayOrAir);
        Edge.of("If it is not OFF then: up to 16 STEPS are done, one after the other, as long as it is not OFF. A STEP:",
            SlotEdges::sixteen, SlotEdges::offInTheMiddle, SlotEdges::offBehindTheLast);
    }

    private static ThriftNode spinning() {
        return Asm.sealed(Asm.code(Asm.go(0)));
    }

    private static void noneAtFirst() {
        Due.is("new: state(1)", new ThriftNode().state(1), 0);
        Due.is("sealed: state(1)", spinning().state(1), 0);
    }

    private static void downToNothing() {
        ThriftNode x = spinning();
        Due.is("slot(76)", x.slot(76), 16);
        Asm.states(x, "all is spent", Asm.RUN, 0);
        Due.is("slot(0)", x.slot(0), 0);
        Asm.states(x, "and no step can be paid", Asm.OFF, 0);
    }

    private static void upToTheMost() {
        Due.is("just the most: state(1)", offWith(2000).state(1), 2000);
        Due.is("and no more: state(1)", offWith(2001).state(1), 2000);
    }

    /** A task is given up, so what is harvested stays. */
    private static ThriftNode offWith(int energy) {
        ThriftNode x = Asm.sealed(Asm.code(Asm.go(0)));
        for (int k = 0; k < 12; k++) {
            Due.is("slot(60)", x.slot(60), 0);
        }
        int left = energy;
        while (left > 0) {
            Due.is("given up: slot", x.slot(Math.min(500, left)), -1);
            left -= Math.min(500, left);
        }
        return x;
    }

    private static void eachPhase() {
        ThriftNode x = Asm.sealed(Asm.join(Asm.times(13, Asm.add(0, 0, 0)), Asm.code(Asm.send(0), Asm.end(0))));
        Due.is("OFF", x.state(0), 0);
        x.slot(500);
        // 15 in RUN, 14 in COMMIT, 2 in AIR.
        Due.is("COMMIT", x.state(0), 4);
        x.cut(8 + 2);
        x.slot(500);
        Due.is("OFF", x.state(0), 0);
        Due.is("MARK", x.kept(Asm.MARK, false), 4);
        x.slot(500);
        // 5 to the end of the replay, 2 in AIR, 9 in RUN.
        Due.is("RUN", x.state(0), 3);
        ThriftNode y = Asm.sealed(Asm.code(Asm.send(0), Asm.end(0)));
        y.slot(500);
        Due.is("AIR", y.state(0), 2);
        ThriftNode z = Asm.sealed(PendingLimitTest.fullAttempt(Asm.end(0)));
        Asm.stepsAndCut(z, PendingLimitTest.STEPS + 1 + 81, 500);
        z.slot(500);
        Due.is("REPLAY", z.state(0), 1);
    }

    private static void tasksAtFirst() {
        ThriftNode x = spinning();
        for (int t = 0; t < 16; t++) {
            Asm.task(x, "at first", t, 0, 0);
        }
    }

    private static void justTheMost() {
        ThriftNode x = offWith(1500);
        Due.is("slot(499)", x.slot(499), -1);
        Due.is("1999: state(1)", x.state(1), 1999);
        Due.is("slot(1)", x.slot(1), -1);
        Due.is("2000: state(1)", x.state(1), 2000);
        Due.is("slot(1)", x.slot(1), -1);
        Due.is("no more: state(1)", x.state(1), 2000);
        Due.is("slot(500)", x.slot(500), -1);
        Due.is("no more: state(1)", x.state(1), 2000);
        ThriftNode y = offWith(1501);
        Due.is("slot(500)", y.slot(500), -1);
        Due.is("one too many: state(1)", y.state(1), 2000);
    }

    private static void addedBeforeTheBoot() {
        ThriftNode x = spinning();
        Due.is("slot(60)", x.slot(60), 0);
        Due.is("it booted: state(7)", x.state(7), 1);
        // A commit that spent more than 1940 lets the node wait for 2000: what is more than that is lost before the boot.
        ThriftNode y = costly();
        int energy = y.state(1);
        while (energy + 500 < 2000) {
            Due.is("slot(500)", y.slot(500), -1);
            energy += 500;
        }
        Due.is("slot(500)", y.slot(500), 16);
        // SET and SET, twelve SENSEs, SUB and ZERO.
        Due.is("state(1)", y.state(1), 2000 - 60 - 124);
    }

    private static void addedBeforeTheSteps() {
        ThriftNode x = spinning();
        x.slot(76);
        Due.is("slot(16)", x.slot(16), 16);
        Asm.states(x, "just enough", Asm.RUN, 0);
        Asm.slots(x, 5, 500, 16);
        Asm.states(x, "at the most", Asm.RUN, 2000 - 16);
    }

    private static void numbersOfSlots() {
        ThriftNode x = spinning();
        Due.is("none yet: state(2)", x.state(2), 0);
        x.slot(0);
        Due.is("the first one, OFF: state(2)", x.state(2), 1);
        Due.throwsIt("slot(501)", IllegalArgumentException.class, () -> x.slot(501));
        Due.is("one that was refused: state(2)", x.state(2), 1);
        x.slot(500);
        Due.is("the second one: state(2)", x.state(2), 2);
        x.cut(1);
        x.slot(500);
        Due.is("one with a failure: state(2)", x.state(2), 3);
        Due.is("given up: state(2)", offWith(1000).state(2), 14);
    }

    private static void sixty() {
        ThriftNode x = spinning();
        Due.is("slot(59)", x.slot(59), -1);
        Asm.states(x, "59", Asm.OFF, 59, 1, 0, 0, 0, -1, 0);
        Due.is("slot(0)", x.slot(0), -1);
        Due.is("slot(1)", x.slot(1), 0);
        Asm.states(x, "60", Asm.OFF, 0, 3, 0, 0, 0, -1, 1);
    }

    private static void sixtyMore() {
        for (int spent = 1; spent <= 16; spent++) {
            ThriftNode x = spinning();
            Due.is("slot", x.slot(60 + spent), spent == 16 ? 16 : spent);
            if (spent == 16) {
                Due.is("slot(0)", x.slot(0), 0);
            }
            Asm.task(x, "spent " + spent, 0, 2 * spent, 1);
            Due.is("59 more than the ESTIMATE", x.slot(59 + 2 * spent), -1);
            Due.is("60 more than the ESTIMATE", x.slot(1), Math.min(16, 2 * spent));
        }
    }

    private static void theEstimateOfTheTaskInTask() {
        // Task 0 comes through with 33; task 1 has spent nothing yet.
        ThriftNode x = Asm.sealed(Asm.code(Asm.end(1)), Asm.code(Asm.go(0)));
        Due.is("slot(93)", x.slot(93), 9);
        Asm.task(x, "task 0 came through", 0, 33, 0);
        Asm.task(x, "task 1 could not begin", 1, 0, 1);
        Due.is("59", x.slot(59), -1);
        Due.is("60 is enough for task 1", x.slot(1), 0);
        // MARK is written, TASK is not: the task in TASK is the one before.
        ThriftNode y = Asm.sealed(Asm.code(Asm.end(1)), Asm.code(Asm.end(0)));
        Due.is("slot(93 + 21)", y.slot(93 + 21), 15);
        Due.is("TASK", y.kept(Asm.TASK, false), 1);
        Due.is("MARK", y.kept(Asm.MARK, false), 2);
        Due.is("59", y.slot(59), -1);
        Due.is("60 is enough for task 1", y.slot(1), 0);
        Due.is("the replay could not begin: state(7)", y.state(7), 2);
    }

    /** Comes to 1940 by failures: 60 more is just 2000. */
    private static void anEstimateOf1940() {
        ThriftNode x = Asm.sealed(Asm.code(Asm.sense(0, 0), Asm.mul(0, 0, 0), Asm.go(0)));
        Asm.stepsAndCut(x, 3 * 64 + 1, 500);
        Asm.task(x, "970 spent", 0, 1940, 1);
        waitFor(x, 1999);
        Due.is("at 2000: slot(1)", x.slot(1), 16);
    }

    /** Stays OFF until it has so much. */
    private static void waitFor(ThriftNode x, int energy) {
        int left = energy - x.state(1);
        while (left > 0) {
            Due.is("below " + energy + ": slot", x.slot(Math.min(400, left)), -1);
            left -= Math.min(400, left);
        }
        Due.is("state(1)", x.state(1), energy);
    }

    /** A task that came through and spent 2494. */
    private static ThriftNode costly() {
        ThriftNode x = Asm.sealed(Asm.join(Asm.code(Asm.set(1, 20), Asm.set(2, 1)), Asm.times(12, Asm.sense(0, 0)),
            Asm.code(Asm.sub(1, 1, 2), Asm.zero(1, 17), Asm.go(2), Asm.end(0))));
        // 2 SETs, 20 times round with 12 SENSEs, SUB and ZERO, 19 GOs, END, 8 writes.
        Asm.stepsAndCut(x, 2 + 20 * 14 + 19 + 1 + 8, 500);
        Asm.task(x, "came through", 0, 2 + 20 * 122 + 19 + 1 + 32, 0);
        return x;
    }

    private static void anEstimateAbove1940() {
        ThriftNode x = costly();
        waitFor(x, 1999);
        Due.is("slot(0)", x.slot(0), -1);
        Due.is("at 2000: slot(1)", x.slot(1), 16);
    }

    private static void givenUp() {
        ThriftNode x = offWith(2000);
        Asm.slots(x, 3, 500, -1);
        Asm.states(x, "given up", Asm.OFF, 2000, 19, 0, 0, 0, 0, 12);
    }

    private static void theBootIsPaid() {
        ThriftNode x = spinning();
        x.cut(1);
        Due.is("slot(500)", x.slot(500), 1);
        Due.is("state(1)", x.state(1), 439);
        x.cut(1);
        Due.is("slot(0)", x.slot(0), 1);
        Due.is("each boot is: state(1)", x.state(1), 378);
        Due.is("but it is not SPENT by the attempt", x.task(0, 0), 4);
    }

    /** Behind MARK, and behind each step but the last one, it replays; before MARK it does not. */
    private static void replayOrAir() {
        for (int steps = 1; steps <= 9; steps++) {
            ThriftNode x = Asm.sealed(Asm.code(Asm.end(0)));
            Asm.stepsAndCut(x, steps, 500);
            int wear = x.kept(Asm.TASK, true);
            boolean marked = steps >= 6 && steps < 9;
            Due.is("behind " + steps + ": MARK", x.kept(Asm.MARK, false), marked ? 2 : 0);
            x.cut(1);
            Due.is("slot(500)", x.slot(500), 1);
            Due.is("behind " + steps + ": TASK is written again", x.kept(Asm.TASK, true), wear + (marked ? 1 : 0));
            Due.is("behind " + steps + ": an attempt failed", x.task(0, 1), (steps < 6 ? 1 : 0) + (marked ? 0 : 1));
        }
    }

    private static void sixteen() {
        ThriftNode x = Asm.sealed(Asm.join(Asm.times(31, Asm.add(0, 0, 0)), Asm.code(Asm.go(31))));
        Due.is("slot(500)", x.slot(500), 16);
        Due.is("state(5)", x.state(5), 16);
        Due.is("slot(0)", x.slot(0), 16);
        Due.is("state(5)", x.state(5), 31);
        Due.is("state(3)", x.state(3), 32);
        ThriftNode y = Asm.sealed(Asm.code(Asm.end(0)));
        Due.is("over several phases: slot(500)", y.slot(500), 16);
        Due.is("9 and 7: state(3)", y.state(3), 1 + 24);
    }

    /** It has enough to boot again, and does not in this slot. */
    private static void offInTheMiddle() {
        ThriftNode x = spinning();
        x.cut(7);
        Due.is("slot(500)", x.slot(500), 7);
        Asm.states(x, "OFF", Asm.OFF, 433, 1, 0, 0, 0, -1, 1);
    }

    private static void offBehindTheLast() {
        ThriftNode x = spinning();
        x.cut(16);
        Due.is("slot(500)", x.slot(500), 16);
        Asm.states(x, "OFF", Asm.OFF, 424, 1, 0, 0, 0, -1, 1);
        ThriftNode y = spinning();
        y.cut(17);
        Due.is("slot(500)", y.slot(500), 16);
        Asm.states(y, "not yet", Asm.RUN, 424, 1, 16, 0, 0, -1, 0);
        Due.is("slot(0)", y.slot(0), 1);
        Asm.states(y, "OFF", Asm.OFF, 423, 2, 0, 0, 0, -1, 1);
    }
}
