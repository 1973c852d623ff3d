/** Promise 1: a new object is in the state that the terms give. */
public final class P01NewObjectTest {
    public static void main(String[] args) {
        Asm.states(new ThriftNode(), "new", Asm.OFF, 0, 0, 0, 0, 0, ThriftNode.NONE, 0, 0, 0);
        keptWords();
        tasksAndRegisters();
        nothingWasAired();
        notSealed();
        sensorsReadZero();
        objectsAreApart();
        Due.is("NONE", ThriftNode.NONE, -1);
        Due.end("P01NewObjectTest");
    }

    private static void keptWords() {
        ThriftNode x = new ThriftNode();
        Asm.words(x, "new", 0, new int[164]);
        Asm.wears(x, "new", 0, new int[164]);
    }

    private static void tasksAndRegisters() {
        ThriftNode x = new ThriftNode();
        for (int t = 0; t < 16; t++) {
            for (int what = 0; what < 3; what++) {
                Due.is("task(" + t + ", " + what + ")", x.task(t, what), 0);
            }
        }
        Asm.registers(x, "new", new int[8]);
    }

    private static void nothingWasAired() {
        ThriftNode x = new ThriftNode();
        Due.is("aired(0, 0)", x.aired(0, 0), -1);
        Due.is("aired(0, 1)", x.aired(0, 1), -1);
        Due.throwsIt("heard(0)", IndexOutOfBoundsException.class, () -> x.heard(0));
    }

    private static void notSealed() {
        ThriftNode x = new ThriftNode();
        Due.throwsIt("slot(0)", IllegalStateException.class, () -> x.slot(0));
        Due.is("program(0, 0, END)", x.program(0, 0, Asm.end(0)), true);
    }

    private static void sensorsReadZero() {
        ThriftNode x = Asm.ran(Asm.set(0, 9), Asm.set(1, 9), Asm.set(2, 9), Asm.set(3, 9),
            Asm.sense(0, 0), Asm.sense(1, 1), Asm.sense(2, 2), Asm.sense(3, 3));
        Asm.registers(x, "unset sensors", 0, 0, 0, 0);
    }

    private static void objectsAreApart() {
        ThriftNode x = Asm.sealed(Asm.code(Asm.set(0, 5), Asm.put(0, 0), Asm.send(0), Asm.end(0)));
        ThriftNode y = new ThriftNode();
        Asm.slots(x, 4, 500, 16);
        Asm.states(y, "beside one that ran", Asm.OFF, 0, 0, 0, 0, 0, ThriftNode.NONE, 0, 0, 0);
        Asm.words(y, "beside one that ran", 0, new int[164]);
        Due.is("task(0, 0)", y.task(0, 0), 0);
        Due.is("task(0, 2)", y.task(0, 2), 0);
        Due.throwsIt("heard(0)", IndexOutOfBoundsException.class, () -> y.heard(0));
        Due.is("seal()", y.seal(), 1);
    }
}
