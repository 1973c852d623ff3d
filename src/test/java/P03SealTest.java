/** Promise 3: seal, and what it asks of each instruction. */
public final class P03SealTest {
    private static final String[] NAMES = {"END", "SET", "ADD", "SUB", "MUL", "XOR", "ZERO", "GO", "GET", "PUT",
        "LOAD", "STORE", "PUSH", "POP", "SENSE", "SEND", "BIND", "BOUND"};
    // The greatest operands that are no fault, in a task of three instructions, if just task 0 and
    // task 9 have any; END and its task are looked at apart.
    private static final int[] MOST_A = {-1, 7, 7, 7, 7, 7, 7, 255, 7, 7, 7, 7, 7, 7, 7, 7, 255, 255};
    private static final int[] MOST_B = {255, 255, 7, 7, 7, 7, 2, 2, 15, 15, 3, 3, 1, 1, 3, 255, 255, 255};
    private static final int[] MOST_C = {255, 255, 7, 7, 7, 7, 255, 255, 255, 255, 7, 7, 255, 255, 255, 255, 255, 255};

    public static void main(String[] args) {
        for (int op = 0; op < NAMES.length; op++) {
            operand(op, "a", 16, MOST_A[op]);
            operand(op, "b", 8, MOST_B[op]);
            operand(op, "c", 0, MOST_C[op]);
        }
        opsAboveTheLast();
        endsToTasks();
        jumps();
        lastInstructions();
        noInstructions();
        theFirstFault();
        sealedStaysSealed();
        mended();
        Due.end("P03SealTest");
    }

    private static void operand(int op, String name, int shift, int most) {
        if (most < 0) {
            return;
        }
        int word = op << 24;
        seals(NAMES[op] + " with " + name + " 0", word, 0);
        seals(NAMES[op] + " with " + name + " " + most, word | most << shift, 0);
        if (most < 255) {
            seals(NAMES[op] + " with " + name + " " + (most + 1), word | most + 1 << shift, 2);
            seals(NAMES[op] + " with " + name + " 128", word | 128 << shift, 2);
            seals(NAMES[op] + " with " + name + " 255", word | 255 << shift, 2);
        }
    }

    /** The word stands in the second place of task 0, so a fault there is told as 2. */
    private static void seals(String what, int word, int want) {
        ThriftNode x = new ThriftNode();
        Asm.write(x, 0, Asm.set(0, 0), word, Asm.end(9));
        Asm.write(x, 9, Asm.end(0));
        Due.is(what + ": seal()", x.seal(), want);
    }

    private static void opsAboveTheLast() {
        for (int op = 18; op < 256; op++) {
            seals("OP " + op, op << 24, 2);
        }
        seals("all ones", -1, 2);
    }

    private static void endsToTasks() {
        seals("END 0", Asm.end(0), 0);
        seals("END 9", Asm.end(9), 0);
        for (int t = 1; t < 256; t++) {
            if (t != 9) {
                seals("END " + t, Asm.end(t), 2);
            }
        }
        ThriftNode x = new ThriftNode();
        Asm.write(x, 0, Asm.end(15));
        Due.is("END 15 without it: seal()", x.seal(), 1);
        Asm.write(x, 15, Asm.end(15));
        Due.is("END 15 with it: seal()", x.seal(), 0);
    }

    private static void jumps() {
        ThriftNode x = new ThriftNode();
        Asm.write(x, 0, Asm.zero(0, 3), Asm.go(2), Asm.end(0));
        Due.is("ZERO behind the last one: seal()", x.seal(), 1);
        Asm.write(x, 0, Asm.zero(0, 2), Asm.go(3));
        Due.is("GO behind the last one: seal()", x.seal(), 2);
        Asm.write(x, 0, Asm.zero(0, 2), Asm.go(2), Asm.go(0));
        Due.is("jumps to the last one and the first one: seal()", x.seal(), 0);
        ThriftNode y = new ThriftNode();
        Asm.write(y, 0, Asm.join(Asm.times(31, Asm.zero(0, 31)), Asm.code(Asm.go(32))));
        Due.is("GO 32: seal()", y.seal(), 32);
        Asm.write(y, 1, Asm.go(1));
        Due.is("program(0, 31)", y.program(0, 31, Asm.go(31)), true);
        Due.is("GO 1 in a task of one: seal()", y.seal(), 33);
        Asm.write(y, 1, Asm.go(0));
        Due.is("GO to itself: seal()", y.seal(), 0);
    }

    private static void lastInstructions() {
        for (int op = 0; op < NAMES.length; op++) {
            ThriftNode x = new ThriftNode();
            Asm.write(x, 0, Asm.end(0));
            Asm.write(x, 2, Asm.set(0, 0), op << 24);
            boolean mayBeLast = NAMES[op].equals("END") || NAMES[op].equals("GO");
            Due.is(NAMES[op] + " as the last one: seal()", x.seal(), mayBeLast ? 0 : 1 + 2 * 32 + 1);
        }
    }

    private static void noInstructions() {
        ThriftNode x = new ThriftNode();
        Due.is("no instructions: seal()", x.seal(), 1);
        Asm.write(x, 1, Asm.end(1));
        Due.is("no task 0: seal()", x.seal(), 1);
        Asm.write(x, 2, -1);
        Due.is("no task 0 and a fault: seal()", x.seal(), 1);
        Asm.write(x, 0, Asm.end(1));
        Due.is("with task 0: seal()", x.seal(), 1 + 64);
    }

    private static void theFirstFault() {
        ThriftNode x = new ThriftNode();
        Asm.write(x, 0, Asm.end(0));
        Asm.write(x, 15, Asm.join(Asm.times(31, Asm.bind()), Asm.code(Asm.bind())));
        Due.is("the last place of all: seal()", x.seal(), 512);
        Asm.write(x, 15, Asm.bind(), -1);
        Due.is("an earlier one: seal()", x.seal(), 1 + 15 * 32 + 1);
        Asm.write(x, 14, Asm.bind(), Asm.bind(), Asm.bind(), -1, -1);
        Due.is("an earlier task: seal()", x.seal(), 1 + 14 * 32 + 3);
        Asm.write(x, 0, Asm.end(13));
        Due.is("task 0: seal()", x.seal(), 1);
    }

    private static void sealedStaysSealed() {
        ThriftNode x = Asm.sealed(Asm.code(Asm.end(0)));
        Due.is("again: seal()", x.seal(), 0);
        Asm.slots(x, 3, 500, 16);
        Due.is("later: seal()", x.seal(), 0);
        Due.is("later: program", x.program(0, 0, -1), false);
        Due.is("later still: seal()", x.seal(), 0);
    }

    private static void mended() {
        ThriftNode x = new ThriftNode();
        Asm.write(x, 0, Asm.set(0, 1));
        Due.is("seal()", x.seal(), 1);
        Due.is("again: seal()", x.seal(), 1);
        Due.throwsIt("slot(0)", IllegalStateException.class, () -> x.slot(0));
        Asm.write(x, 0, Asm.set(0, 1), Asm.end(0));
        Due.throwsIt("slot(0)", IllegalStateException.class, () -> x.slot(0));
        Due.is("mended: seal()", x.seal(), 0);
        Due.is("slot(0)", x.slot(0), -1);
    }
}
