/** Promise 5: cut. */
public final class P05CutTest {
    public static void main(String[] args) {
        whatItTakes();
        behindTheStep();
        overSlots();
        oneOnly();
        zeroTakesItBack();
        insteadOfTheOneBefore();
        aWrongOneChangesNothing();
        justDoneStepsCount();
        countsInEveryPhase();
        manySteps();
        toldWhileOff();
        Due.end("P05CutTest");
    }

    private static ThriftNode spinning() {
        return Asm.sealed(Asm.code(Asm.go(0)));
    }

    private static void whatItTakes() {
        ThriftNode x = new ThriftNode();
        for (int n : new int[] {0, 1, 2, 9999, 10000}) {
            Due.is("cut(" + n + ")", x.cut(n), true);
        }
        for (int n : new int[] {-1, 10001, Integer.MIN_VALUE, Integer.MAX_VALUE}) {
            Due.is("cut(" + n + ")", x.cut(n), false);
        }
        Due.is("sealed: cut(1)", spinning().cut(1), true);
    }

    private static void behindTheStep() {
        for (int n = 1; n <= 16; n++) {
            ThriftNode x = spinning();
            x.cut(n);
            Due.is("slot(500) with cut(" + n + ")", x.slot(500), n);
            Asm.states(x, "cut(" + n + ")", Asm.OFF, 440 - n, 1, 0, 0, 0, -1, 1);
            Due.is("task(0, 0)", x.task(0, 0), 2 * n);
            Due.is("task(0, 1)", x.task(0, 1), 1);
        }
    }

    private static void overSlots() {
        ThriftNode x = spinning();
        x.cut(40);
        Due.is("slot(500)", x.slot(500), 16);
        Due.is("slot(0)", x.slot(0), 16);
        Due.is("state(0)", x.state(0), Asm.RUN);
        Due.is("slot(0)", x.slot(0), 8);
        Asm.states(x, "cut(40)", Asm.OFF, 400, 3, 0, 0, 0, -1, 1);
    }

    private static void oneOnly() {
        ThriftNode x = spinning();
        x.cut(3);
        Due.is("slot(500)", x.slot(500), 3);
        Asm.slots(x, 5, 100, 16);
        Due.is("state(7)", x.state(7), 1);
    }

    private static void zeroTakesItBack() {
        ThriftNode x = spinning();
        x.cut(20);
        x.slot(500);
        Due.is("cut(0)", x.cut(0), true);
        Asm.slots(x, 5, 100, 16);
        Due.is("state(7)", x.state(7), 0);
    }

    private static void insteadOfTheOneBefore() {
        ThriftNode x = spinning();
        x.cut(20);
        x.slot(500);
        x.cut(18);
        Due.is("slot(0)", x.slot(0), 16);
        Due.is("slot(0)", x.slot(0), 2);
        Due.is("state(7)", x.state(7), 1);
        ThriftNode y = spinning();
        y.cut(5);
        y.cut(2);
        Due.is("slot(500)", y.slot(500), 2);
        Asm.slots(y, 3, 100, 16);
        Due.is("state(7)", y.state(7), 1);
    }

    private static void aWrongOneChangesNothing() {
        ThriftNode x = spinning();
        x.cut(5);
        x.cut(-1);
        x.cut(10001);
        Due.is("slot(500)", x.slot(500), 5);
    }

    /** A step that can't be paid is not done, so it does not bring the cut nearer; nor does a boot. */
    private static void justDoneStepsCount() {
        ThriftNode x = spinning();
        x.cut(7);
        Due.is("slot(65)", x.slot(65), 5);
        Due.is("state(7)", x.state(7), 1);
        Due.is("slot(10)", x.slot(10), -1);
        Due.is("slot(500)", x.slot(500), 2);
        Asm.states(x, "the cut", Asm.OFF, 448, 3, 0, 0, 0, -1, 2);
    }

    private static void countsInEveryPhase() {
        // 3 in RUN, 4 entries with 14 in COMMIT, then 2 in AIR.
        for (int n = 1; n <= 19; n++) {
            ThriftNode x = Asm.sealed(Asm.code(Asm.set(0, 8), Asm.send(0), Asm.end(0)));
            Asm.stepsAndCut(x, n, 500);
            Due.is("behind " + n + ": state(7)", x.state(7), 1);
            Due.is("behind " + n + ": FAILURES", x.task(0, 1), n < 3 + 9 ? 1 : 0);
            Due.is("behind " + n + ": state(9)", x.state(9), n >= 18 ? 1 : 0);
            Due.is("behind " + n + ": SENT", x.kept(Asm.SENT, false), n >= 19 ? 1 : 0);
        }
    }

    private static void manySteps() {
        ThriftNode x = spinning();
        x.cut(6000);
        Asm.slots(x, 375, 100, 16);
        Due.is("state(0)", x.state(0), Asm.OFF);
        Due.is("state(7)", x.state(7), 1);
    }

    private static void toldWhileOff() {
        ThriftNode x = spinning();
        x.slot(10);
        x.cut(1);
        Due.is("slot(10)", x.slot(10), -1);
        Due.is("slot(10)", x.slot(10), -1);
        Due.is("slot(100)", x.slot(100), 1);
        Due.is("state(7)", x.state(7), 1);
    }
}
