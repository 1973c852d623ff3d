/** The boundaries that promises 1 to 7 and 10 to 12 name. */
final class PromiseEdges {
    private static final int LEAST = Integer.MIN_VALUE;
    private static final int MOST = Integer.MAX_VALUE;
    private static final int[] EIGHT = {Asm.set(0, 10), Asm.set(1, 11), Asm.set(2, 12), Asm.set(3, 13),
        Asm.set(4, 14), Asm.set(5, 15), Asm.set(6, 16), Asm.set(7, 17)};

    private PromiseEdges() {
    }

    static void all() {
        Edge.of("makes an object in the state that the terms give.", PromiseEdges::newObject,
            PromiseEdges::newObjectBesideOthers);
        Edge.of("Instruction i (the one behind the last, or one that is there) of a task: true;",
            PromiseEdges::behindTheLast, PromiseEdges::oneThatIsThere, PromiseEdges::anyWord);
        Edge.of("false if there is no such task or place, or it is sealed.", PromiseEdges::noSuchTask,
            PromiseEdges::noSuchPlace, PromiseEdges::aFullTask, PromiseEdges::programOnceSealed);
        Edge.of("0 if it is sealed now (or was);", PromiseEdges::sealedNowOrBefore);
        Edge.of("else 1 more than 32 * the task + the instruction of the first fault (of a task 0 without any: 1).",
            PromiseEdges::firstAndLastFault, PromiseEdges::noTaskZero, PromiseEdges::aFaultDoesNotSeal);
        Edge.of("A slot: how many STEPS were done;", PromiseEdges::noneOneAndSixteen);
        Edge.of("NONE if it is OFF, and did not boot.", PromiseEdges::noneIsNotZero);
        Edge.of("IllegalStateException: it is not sealed;", PromiseEdges::slotBeforeTheSeal);
        Edge.of("IllegalArgumentException: the harvest is not 0 .. 500.", PromiseEdges::harvests,
            PromiseEdges::refusedHarvestChangesNothing);
        Edge.of("The power FAILS behind n STEPS from now on (1 .. 10000; instead of what was told before);",
            PromiseEdges::leastAndGreatestCut, PromiseEdges::insteadOfTheOneBefore);
        Edge.of("0: not so: true;", PromiseEdges::noCut);
        Edge.of("false for another n.", PromiseEdges::wrongCuts);
        Edge.of("Sensor k reads v from now on (0 at first): true;", PromiseEdges::sensors, PromiseEdges::fromNowOn);
        Edge.of("false if there is none such.", PromiseEdges::wrongSensors);
        Edge.of("A kept word, or (wear) its WEAR.", PromiseEdges::wordAndWear);
        Edge.of("IndexOutOfBoundsException: there is none such.", PromiseEdges::wrongWords);
        states();
        Edge.of("Of a task, what 0: ESTIMATE, 1: FAILURES, 2: how many instructions.", PromiseEdges::firstAndLastTask);
        Edge.of("2: how many instructions. NONE if there is none such, or for another what.", PromiseEdges::wrongTasks,
            PromiseEdges::wrongWhatsOfTasks);
        Edge.of("A register; 0 if there is no attempt, or no such register.", PromiseEdges::wrongRegisters,
            PromiseEdges::noAttempt, PromiseEdges::registersInCommit);
    }

    private static void states() {
        Edge.of("What 0: the PHASE, 1: the ENERGY, 2: the slot,", PromiseEdges::firstStates);
        Edge.of("3: what the attempt has SPENT (0 if there is none),", PromiseEdges::spent);
        Edge.of("4: how many words are PENDING,", PromiseEdges::pending);
        Edge.of("5: the instruction that is next (0 if there is no attempt, or it is in COMMIT),", PromiseEdges::next);
        Edge.of("6: the task that is GIVEN UP, NONE for none,", PromiseEdges::givenUp);
        Edge.of("7: how often the power failed,", PromiseEdges::powerFailures);
        Edge.of("8: attempts ABANDONED,", PromiseEdges::abandoned);
        Edge.of("9: frames put on the air, repeats too.", PromiseEdges::framesAndRepeats);
        Edge.of("repeats too. NONE for another what.", PromiseEdges::wrongWhats);
    }

    private static void newObject() {
        ThriftNode x = new ThriftNode();
        Asm.states(x, "new", Asm.OFF, 0, 0, 0, 0, 0, -1, 0, 0, 0, -1);
        Asm.registers(x, "new", new int[8]);
        for (int t = 0; t < 16; t++) {
            Asm.task(x, "new", t, 0, 0);
            Due.is("no instruction", x.task(t, 2), 0);
        }
        Due.is("aired(0, 0)", x.aired(0, 0), -1);
        Due.throwsIt("heard(0)", IndexOutOfBoundsException.class, () -> x.heard(0));
        Due.throwsIt("slot(0)", IllegalStateException.class, () -> x.slot(0));
        Due.is("no cut is told, and it is not sealed: seal()", x.seal(), 1);
    }

    private static void newObjectBesideOthers() {
        ThriftNode other = Frames.cutWithFrameOnAir(3);
        other.sense(0, 9);
        other.cut(1);
        ThriftNode x = Asm.sealed(Asm.held(Asm.get(0, 0), Asm.sense(1, 0)));
        Due.is("no cut of another: slot(500)", x.slot(500), 16);
        Asm.registers(x, "no cell and no sensor of another", 0, 0);
        Due.is("no frame of another", x.aired(0, 0), -1);
        Due.throwsIt("heard(0)", IndexOutOfBoundsException.class, () -> x.heard(0));
    }

    private static void program(ThriftNode x, int task, int i, boolean want) {
        Due.is("program(" + task + ", " + i + ")", x.program(task, i, Asm.end(0)), want);
    }

    private static void behindTheLast() {
        ThriftNode x = new ThriftNode();
        for (int i = 0; i < 32; i++) {
            program(x, 15, i + 1, false);
            program(x, 15, i, true);
            Due.is("task(15, 2)", x.task(15, 2), i + 1);
        }
        Due.is("the task before: task(14, 2)", x.task(14, 2), 0);
    }

    private static void oneThatIsThere() {
        ThriftNode x = new ThriftNode();
        Asm.write(x, 0, Asm.set(0, 1), Asm.set(1, 1), Asm.set(2, 1), Asm.go(3));
        Due.is("the first one", x.program(0, 0, Asm.set(0, 5)), true);
        Due.is("the one before the last", x.program(0, 2, Asm.set(2, 6)), true);
        Due.is("the last one", x.program(0, 3, Asm.go(3)), true);
        Due.is("task(0, 2)", x.task(0, 2), 4);
        Due.is("seal()", x.seal(), 0);
        x.slot(500);
        Asm.registers(x, "replaced", 5, 1, 6);
    }

    private static void anyWord() {
        ThriftNode x = new ThriftNode();
        for (int word : new int[] {0, -1, LEAST, MOST}) {
            Due.is("program(0, 0, " + word + ")", x.program(0, 0, word), true);
        }
        Due.is("task(0, 2)", x.task(0, 2), 1);
        Due.is("the latest one is a fault: seal()", x.seal(), 1);
    }

    private static void noSuchTask() {
        ThriftNode x = new ThriftNode();
        for (int t : new int[] {-1, 16, 17, -16, LEAST, MOST}) {
            program(x, t, 0, false);
        }
        for (int t = 0; t < 16; t++) {
            Due.is("task(" + t + ", 2)", x.task(t, 2), 0);
        }
    }

    private static void noSuchPlace() {
        ThriftNode x = new ThriftNode();
        for (int i : new int[] {-1, 1, 2, 31, 32, LEAST, MOST}) {
            program(x, 0, i, false);
        }
        Due.is("empty: task(0, 2)", x.task(0, 2), 0);
        program(x, 0, 0, true);
        for (int i : new int[] {-1, 2, 3, 31, 32, LEAST, MOST}) {
            program(x, 0, i, false);
        }
        Due.is("task(0, 2)", x.task(0, 2), 1);
        // A negative place of task 1 is no place of task 0.
        program(x, 1, 0, true);
        program(x, 1, -1, false);
        program(x, 1, -32, false);
    }

    private static void aFullTask() {
        ThriftNode x = new ThriftNode();
        Asm.write(x, 0, Asm.times(32, Asm.end(0)));
        Due.is("program(0, 32, -1)", x.program(0, 32, -1), false);
        Due.is("program(0, 33, -1)", x.program(0, 33, -1), false);
        Due.is("task(0, 2)", x.task(0, 2), 32);
        Due.is("task(1, 2)", x.task(1, 2), 0);
        Due.is("no word came to task 1: seal()", x.seal(), 0);
    }

    private static void programOnceSealed() {
        ThriftNode x = Asm.sealed(Asm.code(Asm.set(0, 3), Asm.go(1)));
        Due.is("one that is there", x.program(0, 0, Asm.set(0, 4)), false);
        program(x, 0, 2, false);
        program(x, 1, 0, false);
        x.slot(500);
        Due.is("it stays: register(0)", x.register(0), 3);
        Due.is("task(0, 2)", x.task(0, 2), 2);
        Due.is("task(1, 2)", x.task(1, 2), 0);
        program(x, 0, 0, false);
    }

    private static void sealedNowOrBefore() {
        ThriftNode x = new ThriftNode();
        Asm.write(x, 0, Asm.end(0));
        Due.is("now: seal()", x.seal(), 0);
        Due.is("before: seal()", x.seal(), 0);
        x.program(0, 0, -1);
        x.slot(500);
        Due.is("and later: seal()", x.seal(), 0);
    }

    private static void firstAndLastFault() {
        ThriftNode x = new ThriftNode();
        Asm.write(x, 0, -1);
        Due.is("the first place: seal()", x.seal(), 1);
        Asm.write(x, 0, Asm.end(0));
        Asm.write(x, 15, Asm.times(32, Asm.bind()));
        Due.is("the last place: seal()", x.seal(), 512);
        Due.is("program(15, 0, -1)", x.program(15, 0, -1), true);
        Due.is("task 15, its first one: seal()", x.seal(), 481);
        Asm.write(x, 1, -1);
        Due.is("task 1, its first one: seal()", x.seal(), 33);
        Due.is("program(0, 0, BIND)", x.program(0, 0, Asm.bind()), true);
        Asm.write(x, 0, Asm.times(32, Asm.bind()));
        Due.is("task 0, its last one: seal()", x.seal(), 32);
    }

    private static void noTaskZero() {
        ThriftNode x = new ThriftNode();
        Due.is("no task: seal()", x.seal(), 1);
        Asm.write(x, 15, -1);
        Due.is("task 15 with a fault, no task 0: seal()", x.seal(), 1);
        Asm.write(x, 0, Asm.end(0));
        Due.is("with task 0: seal()", x.seal(), 481);
    }

    private static void aFaultDoesNotSeal() {
        ThriftNode x = new ThriftNode();
        Asm.write(x, 0, Asm.bind());
        Due.is("seal()", x.seal(), 1);
        Due.throwsIt("slot(0)", IllegalStateException.class, () -> x.slot(0));
        program(x, 0, 1, true);
        Due.is("mended: seal()", x.seal(), 0);
        program(x, 0, 1, false);
    }

    private static void noneOneAndSixteen() {
        Due.is("none could be paid", Asm.sealed(Asm.code(Asm.go(0))).slot(60), 0);
        Due.is("one", Asm.sealed(Asm.code(Asm.go(0))).slot(61), 1);
        Due.is("15", Asm.sealed(Asm.code(Asm.go(0))).slot(75), 15);
        Due.is("16", Asm.sealed(Asm.code(Asm.go(0))).slot(76), 16);
        Due.is("no more", Asm.sealed(Asm.code(Asm.go(0))).slot(77), 16);
        ThriftNode x = Asm.sealed(Asm.code(Asm.go(0)));
        x.slot(76);
        Due.is("none, and it was not OFF", x.slot(0), 0);
    }

    private static void noneIsNotZero() {
        ThriftNode x = Asm.sealed(Asm.code(Asm.go(0)));
        Due.is("NONE", ThriftNode.NONE, -1);
        Due.is("slot(0)", x.slot(0), -1);
        Due.is("slot(59)", x.slot(59), -1);
        Due.is("it boots, and no step is done: slot(1)", x.slot(1), 0);
        Due.is("OFF again: slot(0)", x.slot(0), -1);
    }

    private static void slotBeforeTheSeal() {
        ThriftNode x = new ThriftNode();
        for (int harvest : new int[] {0, 1, 500, -1, 501, LEAST, MOST}) {
            Due.throwsIt("slot(" + harvest + ")", IllegalStateException.class, () -> x.slot(harvest));
        }
        Asm.states(x, "nothing changed", Asm.OFF, 0, 0, 0, 0, 0, -1, 0, 0, 0);
        Asm.write(x, 0, Asm.go(0));
        Due.throwsIt("written and not sealed: slot(500)", IllegalStateException.class, () -> x.slot(500));
        Due.is("seal()", x.seal(), 0);
        Due.is("slot(500)", x.slot(500), 16);
        Due.is("the first one: state(2)", x.state(2), 1);
    }

    private static void harvests() {
        ThriftNode x = Asm.sealed(Asm.code(Asm.go(0)));
        for (int harvest : new int[] {-1, -500, 501, 502, 2000, LEAST, MOST}) {
            Due.throwsIt("OFF: slot(" + harvest + ")", IllegalArgumentException.class, () -> x.slot(harvest));
        }
        Due.is("slot(0)", x.slot(0), -1);
        Due.is("slot(500)", x.slot(500), 16);
        for (int harvest : new int[] {-1, 501, LEAST, MOST}) {
            Due.throwsIt("running: slot(" + harvest + ")", IllegalArgumentException.class, () -> x.slot(harvest));
        }
        Due.is("slot(0)", x.slot(0), 16);
    }

    private static void refusedHarvestChangesNothing() {
        ThriftNode x = Asm.sealed(Asm.held(Asm.set(0, 3), Asm.put(0, 0)));
        x.slot(500);
        x.cut(2);
        for (int harvest : new int[] {-1, 501}) {
            Due.throwsIt("slot(" + harvest + ")", IllegalArgumentException.class, () -> x.slot(harvest));
        }
        Asm.states(x, "as before", Asm.RUN, 440 - 17, 1, 17, 1, 2, -1, 0, 0, 0);
        Due.is("register(0)", x.register(0), 3);
        Due.is("the cut is as before: slot(0)", x.slot(0), 2);
    }

    private static void leastAndGreatestCut() {
        ThriftNode x = Asm.sealed(Asm.code(Asm.go(0)));
        Due.is("cut(10000)", x.cut(10000), true);
        Due.is("cut(1)", x.cut(1), true);
        Due.is("slot(500)", x.slot(500), 1);
        Due.is("state(7)", x.state(7), 1);
        // An object has 512 calls, so 508 slots with 16 steps each are about the most that can be cut behind.
        ThriftNode y = Asm.sealed(Asm.code(Asm.go(0)));
        Due.is("cut(8064)", y.cut(8064), true);
        Asm.slots(y, 503, 100, 16);
        Due.is("not yet", y.state(0), Asm.RUN);
        Asm.slots(y, 1, 100, 16);
        Due.is("behind 8064", y.state(0), Asm.OFF);
        ThriftNode z = Asm.sealed(Asm.code(Asm.go(0)));
        Due.is("cut(10000)", z.cut(10000), true);
        Asm.slots(z, 507, 100, 16);
        Due.is("not yet", z.state(7), 0);
    }

    private static void insteadOfTheOneBefore() {
        ThriftNode x = Asm.sealed(Asm.code(Asm.go(0)));
        x.cut(3);
        Due.is("a later one", x.cut(18), true);
        Due.is("slot(500)", x.slot(500), 16);
        Due.is("an earlier one, from now on", x.cut(1), true);
        Due.is("slot(0)", x.slot(0), 1);
        Asm.slots(x, 4, 100, 16);
        Due.is("neither 3 nor 18: state(7)", x.state(7), 1);
    }

    private static void noCut() {
        ThriftNode x = Asm.sealed(Asm.code(Asm.go(0)));
        Due.is("none was told: cut(0)", x.cut(0), true);
        Due.is("slot(500)", x.slot(500), 16);
        x.cut(1);
        Due.is("taken back: cut(0)", x.cut(0), true);
        Asm.slots(x, 4, 100, 16);
        Due.is("state(7)", x.state(7), 0);
    }

    private static void wrongCuts() {
        ThriftNode x = Asm.sealed(Asm.code(Asm.go(0)));
        x.cut(3);
        for (int n : new int[] {-1, -3, 10001, 10002, LEAST, MOST}) {
            Due.is("cut(" + n + ")", x.cut(n), false);
        }
        Due.is("as told before: slot(500)", x.slot(500), 3);
    }

    private static void sensors() {
        ThriftNode x = Asm.sealed(Asm.held(Asm.set(1, 9), Asm.sense(0, 0), Asm.sense(1, 1), Asm.sense(3, 3)));
        Due.is("sense(0, LEAST)", x.sense(0, LEAST), true);
        Due.is("sense(3, MOST)", x.sense(3, MOST), true);
        x.slot(500);
        Asm.registers(x, "0 at first", LEAST, 0, 0, MOST);
    }

    private static void fromNowOn() {
        ThriftNode x = Asm.sealed(Asm.code(Asm.sense(0, 3), Asm.go(0)));
        x.sense(3, 5);
        x.slot(500);
        Due.is("register(0)", x.register(0), 5);
        x.sense(3, 6);
        Due.is("what was read stays: register(0)", x.register(0), 5);
        x.slot(500);
        Due.is("register(0)", x.register(0), 6);
        Due.is("0 again", x.sense(3, 0), true);
        x.slot(500);
        Due.is("register(0)", x.register(0), 0);
    }

    private static void wrongSensors() {
        ThriftNode x = Asm.sealed(Asm.held(Asm.sense(0, 0), Asm.sense(1, 1), Asm.sense(2, 2), Asm.sense(3, 3)));
        for (int k : new int[] {-1, 4, 5, -4, LEAST, MOST}) {
            Due.is("sense(" + k + ", 7)", x.sense(k, 7), false);
        }
        x.slot(500);
        Asm.registers(x, "none reads that", 0, 0, 0, 0);
    }

    private static void wordAndWear() {
        ThriftNode x = Asm.sealed(PendingLimitTest.fullAttempt(Asm.end(1)), Asm.code(Asm.end(0)));
        Asm.stepsAndCut(x, PendingLimitTest.STEPS + 1 + 122, 500);
        Due.is("the first word", x.kept(0, false), 1);
        Due.is("its WEAR", x.kept(0, true), 1);
        Due.is("the last word", x.kept(163, false), 1);
        Due.is("its WEAR", x.kept(163, true), 1);
        Due.is("MARK", x.kept(2, false), 0);
        Due.is("its WEAR", x.kept(2, true), 2);
    }

    private static void wrongWords() {
        ThriftNode x = Asm.sealed(Asm.code(Asm.go(0)));
        for (int at : new int[] {-1, -164, 164, 165, 328, LEAST, MOST}) {
            Due.throwsIt("kept(" + at + ", false)", IndexOutOfBoundsException.class, () -> x.kept(at, false));
            Due.throwsIt("kept(" + at + ", true)", IndexOutOfBoundsException.class, () -> x.kept(at, true));
        }
        Due.is("nothing changed: slot(500)", x.slot(500), 16);
    }

    private static void firstStates() {
        ThriftNode x = Asm.sealed(Asm.code(Asm.go(0)));
        Asm.states(x, "at first", 0, 0, 0);
        x.slot(59);
        Asm.states(x, "OFF", 0, 59, 1);
        x.slot(500);
        Asm.states(x, "RUN", 3, 559 - 60 - 16, 2);
    }

    private static void spent() {
        ThriftNode x = Asm.sealed(Asm.join(Asm.times(7, Asm.set(0, 9)), Asm.code(Asm.end(1))), Asm.code(Asm.go(0)));
        Due.is("OFF", x.state(3), 0);
        x.slot(500);
        Due.is("the commit is over", x.state(3), 0);
        x.slot(500);
        Due.is("RUN", x.state(3), 16);
        x.cut(1);
        x.slot(0);
        Due.is("OFF", x.state(3), 0);
        ThriftNode y = Asm.sealed(Asm.join(Asm.times(8, Asm.set(0, 9)), Asm.code(Asm.end(0))));
        y.slot(500);
        Due.is("one step before its end", y.state(3), 9 + 7 * 4);
    }

    private static void pending() {
        ThriftNode x = Asm.ran(Asm.add(0, 0, 0));
        Due.is("nothing", x.state(4), 0);
        ThriftNode y = Asm.sealed(PendingLimitTest.fullAttempt(Asm.put(0, 15), Asm.end(0)));
        Asm.slots(y, 5, 500, 16);
        Due.is("COMMIT", y.state(0), Asm.COMMIT);
        Due.is("the most; TASK and COMMITS do not count", y.state(4), 38);
        y.cut(1);
        y.slot(0);
        Due.is("OFF", y.state(4), 0);
    }

    private static void next() {
        ThriftNode x = new ThriftNode();
        Due.is("new", x.state(5), 0);
        ThriftNode y = Asm.sealed(Asm.join(Asm.times(31, Asm.add(0, 0, 0)), Asm.code(Asm.go(31))));
        y.slot(500);
        Due.is("16", y.state(5), 16);
        y.slot(0);
        Due.is("the last one", y.state(5), 31);
        y.cut(1);
        y.slot(0);
        Due.is("OFF", y.state(5), 0);
        ThriftNode z = Asm.sealed(Asm.join(Asm.times(15, Asm.add(0, 0, 0)), Asm.code(Asm.end(0))));
        z.slot(500);
        Due.is("COMMIT", z.state(5), 0);
    }

    private static void givenUp() {
        ThriftNode x = Asm.sealed(Asm.code(Asm.go(0)));
        Due.is("none", x.state(6), -1);
        Asm.slots(x, 11, 60, 0);
        Due.is("none yet", x.state(6), -1);
        Asm.slots(x, 1, 60, 0);
        Due.is("task 0", x.state(6), 0);
        ThriftNode y = new ThriftNode();
        Asm.write(y, 0, Asm.end(15));
        Asm.write(y, 15, Asm.bind(), Asm.end(0));
        y.seal();
        Due.is("slot(93)", y.slot(93), 9);
        Asm.slots(y, 10, 60, 0);
        Due.is("eleven", y.state(6), -1);
        Asm.slots(y, 1, 60, 0);
        Due.is("task 15", y.state(6), 15);
    }

    private static void powerFailures() {
        ThriftNode x = Asm.sealed(Asm.code(Asm.go(0)));
        x.slot(0);
        Due.is("it never had power", x.state(7), 0);
        x.slot(60);
        Due.is("one step could not be paid", x.state(7), 1);
        x.slot(30);
        Due.is("it stayed OFF", x.state(7), 1);
        x.cut(1);
        x.slot(30);
        Due.is("a boot and no step", x.state(7), 2);
        x.slot(100);
        Due.is("a cut", x.state(7), 3);
    }

    private static void abandoned() {
        ThriftNode x = Asm.sealed(Asm.code(Asm.bind(), Asm.bound(0), Asm.go(1)));
        x.slot(500);
        Due.is("none", x.state(8), 0);
        x.slot(500);
        Due.is("one", x.state(8), 1);
        // GO, and the BOUND that abandons.
        x.cut(2);
        x.slot(500);
        Due.is("two; the counts outlive a failure", x.state(8), 2);
        x.slot(500);
        Due.is("two", x.state(8), 2);
    }

    private static void framesAndRepeats() {
        ThriftNode x = Frames.cutWithFrameOnAir(0);
        Due.is("one", x.state(9), 1);
        for (int k = 2; k <= 70; k++) {
            Frames.repeat(x);
            Due.is("repeats too", x.state(9), k);
        }
        Due.is("more than 64: state(9)", x.state(9), 70);
    }

    private static void wrongWhats() {
        for (ThriftNode x : new ThriftNode[] {new ThriftNode(), Frames.cutWithFrameOnAir(1), Asm.ran(Asm.put(0, 0))}) {
            for (int what : new int[] {-1, 10, 11, LEAST, MOST}) {
                Due.is("state(" + what + ")", x.state(what), -1);
            }
        }
    }

    private static void firstAndLastTask() {
        ThriftNode x = new ThriftNode();
        Asm.write(x, 0, Asm.end(15));
        Asm.write(x, 15, Asm.join(Asm.times(31, Asm.bind()), Asm.code(Asm.end(0))));
        Due.is("task(0, 2)", x.task(0, 2), 1);
        Due.is("task(15, 2)", x.task(15, 2), 32);
        Due.is("none: task(7, 2)", x.task(7, 2), 0);
        x.seal();
        Asm.stepsAndCut(x, 9 + 1, 500);
        Asm.task(x, "came through", 0, 33, 0);
        Asm.task(x, "failed", 15, 2, 1);
        Asm.task(x, "never ran", 7, 0, 0);
    }

    private static void wrongTasks() {
        ThriftNode x = Asm.sealed(Asm.code(Asm.go(0)));
        for (int t : new int[] {-1, 16, 17, LEAST, MOST}) {
            for (int what = -1; what <= 3; what++) {
                Due.is("task(" + t + ", " + what + ")", x.task(t, what), -1);
            }
        }
    }

    private static void wrongWhatsOfTasks() {
        ThriftNode x = Asm.sealed(Asm.code(Asm.go(0)));
        for (int what : new int[] {-1, 3, 4, LEAST, MOST}) {
            Due.is("task(0, " + what + ")", x.task(0, what), -1);
            Due.is("task(15, " + what + ")", x.task(15, what), -1);
        }
    }

    private static void wrongRegisters() {
        ThriftNode x = Asm.ran(EIGHT);
        Asm.registers(x, "eight", 10, 11, 12, 13, 14, 15, 16, 17);
        for (int k : new int[] {-1, 8, 9, -8, LEAST, MOST}) {
            Due.is("register(" + k + ")", x.register(k), 0);
        }
    }

    private static void noAttempt() {
        Asm.registers(new ThriftNode(), "new", new int[9]);
        ThriftNode x = Asm.ran(EIGHT);
        x.cut(1);
        x.slot(0);
        Asm.registers(x, "OFF", new int[9]);
        ThriftNode y = Asm.sealed(Asm.code(Asm.set(0, 9), Asm.set(1, 9), Asm.set(2, 9), Asm.set(3, 9), Asm.set(5, 9),
            Asm.set(6, 9), Asm.set(7, 9), Asm.end(0)));
        y.slot(500);
        Due.is("AIR", y.state(0), Asm.AIR);
        Asm.registers(y, "AIR", new int[9]);
        ThriftNode z = Asm.sealed(Asm.join(EIGHT, PendingLimitTest.cells(6), Asm.code(Asm.end(0))));
        // 15 in RUN, 16 to MARK; then the replay has 9.
        Asm.stepsAndCut(z, 15 + 17, 500);
        Asm.registers(z, "a replay is to come", new int[9]);
    }

    private static void registersInCommit() {
        ThriftNode x = Asm.sealed(Asm.join(EIGHT, Asm.code(Asm.end(0))));
        x.slot(500);
        Due.is("one step before its end", x.kept(Asm.MARK, false), 2);
        Asm.registers(x, "COMMIT", 10, 11, 12, 13, 14, 15, 16, 17, 0);
    }
}
