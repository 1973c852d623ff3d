/** Promise 12: register: seen in an attempt, its commit too, and 0 else. */
public final class P12RegisterTest {
    private static final int[] EIGHT = {Asm.set(0, 10), Asm.set(1, 11), Asm.set(2, 12), Asm.set(3, 13), Asm.set(4, 14),
        Asm.set(5, 15), Asm.set(6, 16), Asm.set(7, 17)};

    public static void main(String[] args) {
        inRun();
        inCommit();
        noAttempt();
        anAttemptBeginsWithZeros();
        Due.end("P12RegisterTest");
    }

    private static void inRun() {
        ThriftNode x = Asm.ran(EIGHT);
        Asm.registers(x, "RUN", 10, 11, 12, 13, 14, 15, 16, 17);
        for (int k : new int[] {-1, 8, 9, Integer.MIN_VALUE, Integer.MAX_VALUE}) {
            Due.is("register(" + k + ")", x.register(k), 0);
        }
    }

    private static void inCommit() {
        ThriftNode x = Asm.sealed(Asm.join(EIGHT, Asm.code(Asm.end(0))));
        x.slot(500);
        Due.is("state(0)", x.state(0), Asm.COMMIT);
        Asm.registers(x, "COMMIT", 10, 11, 12, 13, 14, 15, 16, 17);
    }

    private static void noAttempt() {
        ThriftNode x = Asm.ran(EIGHT);
        x.cut(1);
        x.slot(0);
        Asm.registers(x, "OFF", new int[8]);
        // 8 and 8 again: the commit's last step is the slot's last one.
        ThriftNode y = Asm.sealed(Asm.code(Asm.set(0, 10), Asm.set(1, 11), Asm.set(2, 12), Asm.set(3, 13),
            Asm.set(4, 14), Asm.set(5, 15), Asm.set(7, 17), Asm.end(0)));
        y.slot(500);
        Asm.states(y, "committed", Asm.AIR, 440 - 40, 1, 0, 0, 0);
        Asm.registers(y, "AIR", new int[8]);
        y.slot(500);
        Asm.registers(y, "AIR again", new int[8]);
        abandoned();
    }

    private static void abandoned() {
        ThriftNode x = Asm.sealed(Asm.join(Asm.code(Asm.bind()), EIGHT, EIGHT, Asm.times(13, Asm.put(0, 3)),
            Asm.code(Asm.bound(0), Asm.end(0))));
        x.slot(500);
        Asm.registers(x, "RUN", 10, 11, 12, 13, 14, 15, 16, 17);
        // 31 in all: the next attempt has its BIND behind it.
        x.slot(0);
        Due.is("state(8)", x.state(8), 1);
        Asm.registers(x, "the next attempt", new int[8]);
        // Here the BOUND is step 32, so that no attempt has begun behind it.
        ThriftNode y = Asm.sealed(Asm.join(Asm.code(Asm.go(3), Asm.bound(0), Asm.go(1), Asm.bind()), EIGHT,
            Asm.times(19, Asm.put(0, 3)), Asm.code(Asm.go(2))));
        y.slot(500);
        Asm.registers(y, "RUN", 10, 11, 12, 13, 14, 15, 16, 17);
        y.slot(0);
        Asm.states(y, "abandoned", Asm.AIR, 440 - 13 - 19 * 2, 2, 0, 0, 0, -1, 0, 1, 0);
        Asm.registers(y, "abandoned", new int[8]);
    }

    private static void anAttemptBeginsWithZeros() {
        // Cells 0 .. 2 take what the registers are at the begin; then these are set.
        ThriftNode x = Asm.sealed(Asm.code(Asm.put(0, 0), Asm.put(3, 1), Asm.put(7, 2), Asm.set(0, 1), Asm.set(3, 1),
            Asm.set(7, 1), Asm.end(0)));
        Asm.slots(x, 6, 500, 16);
        Due.is("COMMITS", x.kept(Asm.COMMITS, false), 4);
        Asm.words(x, "zeros", Asm.CELLS, 0, 0, 0);
        Asm.wears(x, "zeros", Asm.CELLS, 4, 4, 4);
    }
}
