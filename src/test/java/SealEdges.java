/** The boundaries that SEAL names. */
final class SealEdges {
    private static final String[] NAMES = {"END", "SET", "ADD", "SUB", "MUL", "XOR", "ZERO", "GO", "GET", "PUT",
        "LOAD", "STORE", "PUSH", "POP", "SENSE", "SEND", "BIND", "BOUND"};
    private static final int SHIFT_A = 16;
    private static final int SHIFT_B = 8;
    private static final int SHIFT_C = 0;

    private SealEdges() {
    }

    static void all() {
        Edge.of("SEAL: for each task that has any, and instruction by instruction, there must not be:",
            SealEdges::tasksWithoutAny, SealEdges::taskByTask, SealEdges::justTheInstructionsThatAreThere);
        Edge.of("an OP above 17;", SealEdges::ops);
        Edge.of("a register (as told) above 7;", SealEdges::registersInA, SealEdges::registersInB,
            SealEdges::registersInC);
        Edge.of("a CELL above 15, a ROW above 3, a QUEUE above 1, a sensor above 3;", SealEdges::cells, SealEdges::rows,
            SealEdges::queues, SealEdges::sensors);
        Edge.of("an END to a task without instructions;", SealEdges::ends, SealEdges::endsToNoTask);
        Edge.of("a ZERO or GO to an instruction that is not there;", SealEdges::zeros, SealEdges::gos,
            SealEdges::jumpsInAFullTask);
        Edge.of("a last instruction that is neither END nor GO.", SealEdges::lastOnes, SealEdges::lastOfAFullTask);
        Edge.of("Task 0 must have one.", SealEdges::taskZero);
        Edge.of("(Bytes that an OP does not have do not matter.)", SealEdges::bytesThatAnOpDoesNotHave);
    }

    private static void tasksWithoutAny() {
        ThriftNode x = new ThriftNode();
        Asm.write(x, 0, Asm.end(15));
        Asm.write(x, 15, Asm.end(0));
        Due.is("14 tasks without any: seal()", x.seal(), 0);
    }

    private static void taskByTask() {
        ThriftNode x = new ThriftNode();
        Asm.write(x, 0, Asm.end(0));
        Asm.write(x, 9, Asm.bind(), Asm.bind(), -1, Asm.end(0));
        Asm.write(x, 10, -1, Asm.end(0));
        Due.is("the earlier task: seal()", x.seal(), 1 + 32 * 9 + 2);
        Asm.write(x, 9, Asm.bind(), Asm.get(0, 16));
        Due.is("the earlier instruction: seal()", x.seal(), 1 + 32 * 9 + 1);
    }

    /** A place that never had a word is no instruction. */
    private static void justTheInstructionsThatAreThere() {
        ThriftNode x = new ThriftNode();
        Asm.write(x, 0, Asm.go(1), Asm.go(1));
        Due.is("program(0, 3, -1)", x.program(0, 3, -1), false);
        Due.is("program(0, 32, -1)", x.program(0, 32, -1), false);
        Due.is("seal()", x.seal(), 0);
    }

    /** The word stands between others in task 3, so a fault there is told as 1 + 96 + 1. */
    private static void seals(String what, int word, boolean good) {
        ThriftNode x = new ThriftNode();
        Asm.write(x, 0, Asm.end(3));
        Asm.write(x, 3, Asm.bind(), word, Asm.end(0));
        Due.is(what + ": seal()", x.seal(), good ? 0 : 98);
    }

    private static void ops() {
        for (int op = 0; op < 256; op++) {
            seals("OP " + op, op << 24, op <= 17);
        }
    }

    /** The byte may be as great as told, and no greater. */
    private static void most(int op, int shift, int most) {
        for (int v : new int[] {0, most, most + 1, 127, 128, 255}) {
            seals(NAMES[op] + " with " + v + " << " + shift, op << 24 | v << shift, v <= most);
        }
    }

    private static void registersInA() {
        for (int op : new int[] {1, 2, 3, 4, 5, 6, 8, 9, 10, 11, 12, 13, 14, 15}) {
            most(op, SHIFT_A, 7);
        }
    }

    private static void registersInB() {
        for (int op = 2; op <= 5; op++) {
            most(op, SHIFT_B, 7);
        }
    }

    private static void registersInC() {
        for (int op : new int[] {2, 3, 4, 5, 10, 11}) {
            most(op, SHIFT_C, 7);
        }
    }

    private static void cells() {
        most(8, SHIFT_B, 15);
        most(9, SHIFT_B, 15);
    }

    private static void rows() {
        most(10, SHIFT_B, 3);
        most(11, SHIFT_B, 3);
    }

    private static void queues() {
        most(12, SHIFT_B, 1);
        most(13, SHIFT_B, 1);
    }

    private static void sensors() {
        most(14, SHIFT_B, 3);
    }

    private static void ends() {
        for (int t = 1; t < 16; t++) {
            ThriftNode x = new ThriftNode();
            Asm.write(x, 0, Asm.end(0), Asm.end(t));
            Due.is("END " + t + " without it: seal()", x.seal(), 2);
            Asm.write(x, t, Asm.end(t));
            Due.is("END " + t + " with it: seal()", x.seal(), 0);
        }
    }

    private static void endsToNoTask() {
        for (int t : new int[] {16, 17, 31, 127, 128, 255}) {
            seals("END " + t, Asm.end(t), false);
        }
    }

    /** The task has three instructions. */
    private static void zeros() {
        most(6, SHIFT_B, 2);
    }

    private static void gos() {
        most(7, SHIFT_B, 2);
    }

    private static void jumpsInAFullTask() {
        ThriftNode x = new ThriftNode();
        Asm.write(x, 0, Asm.join(Asm.times(31, Asm.zero(0, 31)), Asm.code(Asm.go(32))));
        Due.is("GO 32: seal()", x.seal(), 32);
        Due.is("program(0, 31, GO 31)", x.program(0, 31, Asm.go(31)), true);
        Due.is("program(0, 30, ZERO 32)", x.program(0, 30, Asm.zero(0, 32)), true);
        Due.is("ZERO 32: seal()", x.seal(), 31);
        Due.is("program(0, 30, ZERO 31)", x.program(0, 30, Asm.zero(0, 31)), true);
        Due.is("the last one: seal()", x.seal(), 0);
        ThriftNode y = new ThriftNode();
        Asm.write(y, 0, Asm.go(1));
        Due.is("GO 1 in a task of one: seal()", y.seal(), 1);
        Asm.write(y, 0, Asm.go(0));
        Due.is("GO 0 in a task of one: seal()", y.seal(), 0);
    }

    private static void lastOnes() {
        for (int op = 0; op < NAMES.length; op++) {
            ThriftNode x = new ThriftNode();
            Asm.write(x, 0, op << 24);
            boolean mayBeLast = op == 0 || op == 7;
            Due.is(NAMES[op] + " alone: seal()", x.seal(), mayBeLast ? 0 : 1);
            ThriftNode y = new ThriftNode();
            Asm.write(y, 0, Asm.end(0), op << 24);
            Due.is(NAMES[op] + " as the second one of two: seal()", y.seal(), mayBeLast ? 0 : 2);
        }
    }

    private static void lastOfAFullTask() {
        ThriftNode x = new ThriftNode();
        Asm.write(x, 0, Asm.end(15));
        Asm.write(x, 15, Asm.times(32, Asm.zero(0, 0)));
        Due.is("the last place of all: seal()", x.seal(), 512);
        Due.is("program(15, 31, END)", x.program(15, 31, Asm.end(0)), true);
        Due.is("seal()", x.seal(), 0);
    }

    private static void taskZero() {
        ThriftNode x = new ThriftNode();
        Due.is("no task at all: seal()", x.seal(), 1);
        Asm.write(x, 1, Asm.end(1));
        Due.is("just task 1: seal()", x.seal(), 1);
        Due.throwsIt("slot(0)", IllegalStateException.class, () -> x.slot(0));
        Asm.write(x, 0, Asm.end(1));
        Due.is("both: seal()", x.seal(), 0);
    }

    private static void bytesThatAnOpDoesNotHave() {
        seals("END", Asm.word(0, 0, 255, 255), true);
        seals("SET", Asm.word(1, 0, 255, 255), true);
        seals("ZERO", Asm.word(6, 0, 0, 255), true);
        seals("GO", Asm.word(7, 255, 0, 255), true);
        for (int op : new int[] {8, 9, 12, 13, 14}) {
            seals(NAMES[op], Asm.word(op, 0, 0, 255), true);
        }
        seals("SEND", Asm.word(15, 0, 255, 255), true);
        seals("BIND", Asm.word(16, 255, 255, 255), true);
        seals("BOUND", Asm.word(17, 255, 255, 255), true);
        // Nor do they matter when it runs.
        ThriftNode x = Asm.ran(Asm.word(6, 0, 1, 255), Asm.word(7, 255, 2, 255), Asm.set(0, 4), Asm.word(9, 0, 3, 255),
            Asm.word(8, 1, 3, 255), Asm.word(12, 0, 1, 255), Asm.word(13, 2, 1, 255), Asm.word(14, 3, 0, 255),
            Asm.word(15, 0, 255, 255), Asm.word(16, 255, 255, 255), Asm.word(17, 0, 255, 255));
        Asm.registers(x, "as ever", 4, 4, 4, 0, 0, 0, 0, 1);
        ThriftNode y = Asm.sealed(Asm.code(Asm.word(0, 0, 255, 255)));
        Asm.stepsAndCut(y, 1 + Asm.commit(0), 500);
        Asm.words(y, "END", 0, 0, 1);
    }
}
