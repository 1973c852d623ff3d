/** Promise 6: sense. */
public final class P06SenseTest {
    public static void main(String[] args) {
        whatItTakes();
        readings();
        fromNowOn();
        outlivesAPowerFailure();
        Due.end("P06SenseTest");
    }

    private static void whatItTakes() {
        ThriftNode x = new ThriftNode();
        for (int k = 0; k < 4; k++) {
            Due.is("sense(" + k + ", 1)", x.sense(k, 1), true);
        }
        for (int k : new int[] {-1, 4, 5, Integer.MIN_VALUE, Integer.MAX_VALUE}) {
            Due.is("sense(" + k + ", 1)", x.sense(k, 1), false);
        }
    }

    private static ThriftNode readingAll() {
        return Asm.sealed(Asm.code(Asm.sense(0, 0), Asm.sense(1, 1), Asm.sense(2, 2), Asm.sense(3, 3),
            Asm.go(4)));
    }

    private static void readings() {
        ThriftNode x = readingAll();
        x.sense(0, 11);
        x.sense(1, -12);
        x.sense(2, Integer.MIN_VALUE);
        x.sense(3, Integer.MAX_VALUE);
        x.sense(4, 77);
        x.sense(-1, 77);
        Due.is("slot(500)", x.slot(500), 16);
        Asm.registers(x, "readings", 11, -12, Integer.MIN_VALUE, Integer.MAX_VALUE, 0);
        Due.is("10 for each: state(3)", x.state(3), 40 + 12);
    }

    private static void fromNowOn() {
        ThriftNode x = Asm.sealed(Asm.code(Asm.sense(0, 2), Asm.go(0)));
        x.slot(500);
        Due.is("before", x.register(0), 0);
        Due.is("sense(2, 5)", x.sense(2, 5), true);
        Due.is("a reading stays in the register", x.register(0), 0);
        x.slot(500);
        Due.is("read anew", x.register(0), 5);
        x.sense(2, 6);
        x.sense(2, 7);
        x.slot(500);
        Due.is("the latest", x.register(0), 7);
    }

    private static void outlivesAPowerFailure() {
        ThriftNode x = readingAll();
        x.sense(1, 8);
        x.cut(3);
        Due.is("slot(500)", x.slot(500), 3);
        Due.is("slot(500)", x.slot(500), 16);
        Asm.registers(x, "behind a failure", 0, 8, 0, 0);
    }
}
