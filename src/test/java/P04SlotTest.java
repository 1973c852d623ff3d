/** Promise 4: slot: what it refuses, when the node boots, how many steps a slot has. */
public final class P04SlotTest {
    public static void main(String[] args) {
        refused();
        refusedChangesNothing();
        bootsAtSixty();
        bootWaitsForTheEstimate();
        energyIsNotAboveTheMost();
        sixteenSteps();
        powerFailsInASlot();
        firstInstructionThatCannotBePaid();
        givenUpStaysOff();
        bootAtTheMostEnergy();
        Due.end("P04SlotTest");
    }

    private static void refused() {
        ThriftNode x = new ThriftNode();
        Due.throwsIt("not sealed: slot(10)", IllegalStateException.class, () -> x.slot(10));
        Due.throwsIt("not sealed: slot(-1)", IllegalStateException.class, () -> x.slot(-1));
        Due.throwsIt("not sealed: slot(501)", IllegalStateException.class, () -> x.slot(501));
        Asm.write(x, 0, Asm.go(0));
        Due.throwsIt("not yet sealed: slot(10)", IllegalStateException.class, () -> x.slot(10));
        Due.is("seal()", x.seal(), 0);
        for (int harvest : new int[] {-1, 501, Integer.MIN_VALUE, Integer.MAX_VALUE}) {
            Due.throwsIt("slot(" + harvest + ")", IllegalArgumentException.class, () -> x.slot(harvest));
        }
        Due.is("slot(0)", x.slot(0), -1);
        Due.is("slot(500)", x.slot(500), 16);
        Due.throwsIt("running: slot(501)", IllegalArgumentException.class, () -> x.slot(501));
    }

    private static void refusedChangesNothing() {
        ThriftNode x = new ThriftNode();
        Asm.write(x, 0, Asm.go(0));
        Due.throwsIt("slot(10)", IllegalStateException.class, () -> x.slot(10));
        Asm.states(x, "refused, not sealed", Asm.OFF, 0, 0);
        x.seal();
        Due.throwsIt("slot(501)", IllegalArgumentException.class, () -> x.slot(501));
        Asm.states(x, "refused, harvest", Asm.OFF, 0, 0);
        x.slot(100);
        Due.throwsIt("slot(-1)", IllegalArgumentException.class, () -> x.slot(-1));
        Asm.states(x, "refused, running", Asm.RUN, 24, 1, 16);
    }

    private static void bootsAtSixty() {
        ThriftNode x = Asm.sealed(Asm.code(Asm.go(0)));
        Due.is("slot(0)", x.slot(0), -1);
        Due.is("slot(59)", x.slot(59), -1);
        Asm.states(x, "59", Asm.OFF, 59, 2, 0, 0, 0, -1, 0);
        Due.is("slot(1)", x.slot(1), 0);
        Asm.states(x, "60", Asm.OFF, 0, 3, 0, 0, 0, -1, 1);
        ThriftNode y = Asm.sealed(Asm.code(Asm.go(0)));
        Due.is("slot(76)", y.slot(76), 16);
        Asm.states(y, "76", Asm.RUN, 0, 1, 16, 0, 0, -1, 0);
    }

    private static void bootWaitsForTheEstimate() {
        ThriftNode x = Asm.sealed(Asm.code(Asm.go(0)));
        Due.is("slot(65)", x.slot(65), 5);
        Due.is("task(0, 0)", x.task(0, 0), 10);
        Due.is("slot(69)", x.slot(69), -1);
        Due.is("state(1)", x.state(1), 69);
        Due.is("slot(1)", x.slot(1), 10);
        Due.is("task(0, 0)", x.task(0, 0), 20);
        Due.is("task(0, 1)", x.task(0, 1), 2);
        Due.is("slot(79)", x.slot(79), -1);
        Due.is("slot(1)", x.slot(1), 16);
        Asm.states(x, "third boot", Asm.RUN, 4, 5, 16);
    }

    private static void energyIsNotAboveTheMost() {
        ThriftNode x = Asm.sealed(Asm.code(Asm.go(0)));
        int[] energies = {424, 908, 1392, 1876, 1984, 1984};
        for (int energy : energies) {
            Due.is("slot(500)", x.slot(500), 16);
            Due.is("state(1)", x.state(1), energy);
        }
        Due.is("slot(16)", x.slot(16), 16);
        Due.is("state(1)", x.state(1), 1984);
        Due.is("slot(15)", x.slot(15), 16);
        Due.is("state(1)", x.state(1), 1983);
    }

    private static void sixteenSteps() {
        ThriftNode x = Asm.sealed(Asm.join(Asm.times(20, Asm.add(0, 0, 1)), Asm.code(Asm.go(20))));
        Due.is("slot(500)", x.slot(500), 16);
        Asm.states(x, "16 steps", Asm.RUN, 424, 1, 16, 0, 16);
        Due.is("slot(0)", x.slot(0), 16);
        Asm.states(x, "32 steps", Asm.RUN, 408, 2, 32, 0, 20);
    }

    private static void powerFailsInASlot() {
        ThriftNode x = Asm.sealed(Asm.code(Asm.mul(0, 0, 0), Asm.go(0)));
        Due.is("slot(68)", x.slot(68), 2);
        Asm.states(x, "3 left, 4 asked", Asm.OFF, 3, 1, 0, 0, 0, -1, 1, 0, 0);
        Due.is("task(0, 0)", x.task(0, 0), 10);
        Due.is("task(0, 1)", x.task(0, 1), 1);
        ThriftNode y = Asm.sealed(Asm.code(Asm.mul(0, 0, 0), Asm.go(0)));
        Due.is("slot(69)", y.slot(69), 3);
        Asm.states(y, "4 left, 4 asked", Asm.OFF, 0, 1, 0, 0, 0, -1, 1, 0, 0);
        Due.is("task(0, 0)", y.task(0, 0), 18);
    }

    private static void firstInstructionThatCannotBePaid() {
        ThriftNode x = Asm.sealed(Asm.code(Asm.sense(0, 0), Asm.go(0)));
        Due.is("slot(69)", x.slot(69), 0);
        Asm.states(x, "9 left, 10 asked", Asm.OFF, 9, 1, 0, 0, 0, -1, 1, 0, 0);
        Due.is("task(0, 0)", x.task(0, 0), 0);
        Due.is("task(0, 1)", x.task(0, 1), 1);
    }

    private static void givenUpStaysOff() {
        ThriftNode x = Asm.sealed(Asm.code(Asm.go(0)));
        for (int k = 1; k <= 12; k++) {
            Due.is("state(6)", x.state(6), -1);
            Due.is("slot(60)", x.slot(60), 0);
            Due.is("task(0, 1)", x.task(0, 1), k);
        }
        Due.is("state(6)", x.state(6), 0);
        for (int k = 1; k <= 5; k++) {
            Due.is("given up: slot(500)", x.slot(500), -1);
            Asm.states(x, "given up", Asm.OFF, Math.min(2000, 500 * k), 12 + k, 0, 0, 0, 0, 12);
        }
        Due.is("task(0, 1)", x.task(0, 1), 12);
    }

    /** A commit may bring an estimate above 1940: then all the energy that can be had is enough. */
    private static void bootAtTheMostEnergy() {
        ThriftNode x = Asm.sealed(Asm.join(Asm.code(Asm.set(1, 20), Asm.set(2, 1)), Asm.times(12, Asm.sense(0, 0)),
            Asm.code(Asm.sub(1, 1, 2), Asm.zero(1, 17), Asm.go(2), Asm.end(0))));
        // 2 SETs, 20 times round with 12 SENSEs, SUB and ZERO, 19 GOs, END, 8 writes.
        int spent = 2 + 20 * 122 + 19 + 1 + 8 * 4;
        int steps = 2 + 20 * 14 + 19 + 1 + 8;
        Asm.stepsAndCut(x, steps, 500);
        Due.is("task(0, 0)", x.task(0, 0), spent);
        Due.is("kept(1, false)", x.kept(1, false), 1);
        int energy = x.state(1);
        while (energy + 500 < 2000) {
            Due.is("below 2000: slot(500)", x.slot(500), -1);
            energy += 500;
        }
        Due.is("at 1999", x.slot(1999 - energy), -1);
        Due.is("state(1)", x.state(1), 1999);
        Due.is("at 2000", x.slot(1), 16);
        x.cut(1);
        x.slot(0);
        Due.is("a failure's estimate is at most 1940", x.task(0, 0), 1940);
    }
}
