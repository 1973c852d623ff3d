/** Promise 2: program. */
public final class P02ProgramTest {
    public static void main(String[] args) {
        placesOfATask();
        everyTask();
        thirtyTwoInstructions();
        aLaterWordReplaces();
        anyWordIsTaken();
        notOnceSealed();
        notSealedByAFault();
        Due.end("P02ProgramTest");
    }

    private static void program(ThriftNode x, int task, int i, int word, boolean want) {
        Due.is("program(" + task + ", " + i + ", " + word + ")", x.program(task, i, word), want);
    }

    private static void placesOfATask() {
        ThriftNode x = new ThriftNode();
        program(x, 0, 1, 0, false);
        program(x, 0, -1, 0, false);
        program(x, 0, Integer.MIN_VALUE, 0, false);
        program(x, 0, Integer.MAX_VALUE, 0, false);
        Due.is("task(0, 2)", x.task(0, 2), 0);
        program(x, 0, 0, 0, true);
        program(x, 0, 2, 0, false);
        program(x, 0, 1, 0, true);
        program(x, 0, 0, 0, true);
        program(x, 0, 3, 0, false);
        Due.is("task(0, 2)", x.task(0, 2), 2);
    }

    private static void everyTask() {
        ThriftNode x = new ThriftNode();
        for (int t = 0; t < 16; t++) {
            program(x, t, 0, Asm.end(0), true);
            program(x, t, 2, Asm.end(0), false);
        }
        program(x, 3, 1, Asm.end(0), true);
        for (int t = 0; t < 16; t++) {
            Due.is("task(" + t + ", 2)", x.task(t, 2), t == 3 ? 2 : 1);
        }
        program(x, -1, 0, 0, false);
        program(x, 16, 0, 0, false);
        program(x, Integer.MIN_VALUE, 0, 0, false);
        program(x, Integer.MAX_VALUE, 0, 0, false);
    }

    private static void thirtyTwoInstructions() {
        ThriftNode x = new ThriftNode();
        for (int t = 0; t < 16; t += 15) {
            for (int i = 0; i < 32; i++) {
                program(x, t, i, i == 31 ? Asm.end(0) : Asm.set(0, i), true);
            }
            program(x, t, 32, Asm.end(0), false);
            program(x, t, 33, Asm.end(0), false);
            Due.is("task(" + t + ", 2)", x.task(t, 2), 32);
        }
        program(x, 0, 31, Asm.end(15), true);
        Due.is("task(0, 2)", x.task(0, 2), 32);
        Due.is("task(1, 2)", x.task(1, 2), 0);
        Due.is("seal()", x.seal(), 0);
        Asm.slots(x, 2, 500, 16);
        Due.is("register(0) behind 31 SETs", x.register(0), 30);
        Due.is("state(0)", x.state(0), Asm.COMMIT);
    }

    private static void aLaterWordReplaces() {
        ThriftNode x = new ThriftNode();
        Asm.write(x, 0, Asm.held(Asm.set(1, 3), Asm.set(2, 4)));
        program(x, 0, 0, Asm.set(1, 30), true);
        Due.is("seal()", x.seal(), 0);
        Due.is("slot(500)", x.slot(500), 16);
        Asm.registers(x, "replaced", 0, 30, 4);
    }

    private static void anyWordIsTaken() {
        ThriftNode x = new ThriftNode();
        int[] words = {0, -1, Integer.MIN_VALUE, Integer.MAX_VALUE, 18 << 24, 255};
        for (int i = 0; i < words.length; i++) {
            program(x, 0, i, words[i], true);
        }
        Due.is("task(0, 2)", x.task(0, 2), words.length);
    }

    private static void notOnceSealed() {
        ThriftNode x = Asm.sealed(Asm.held(Asm.set(1, 3)));
        program(x, 0, 0, Asm.set(1, 4), false);
        program(x, 0, 2, Asm.end(0), false);
        program(x, 1, 0, Asm.end(0), false);
        Due.is("task(0, 2)", x.task(0, 2), 2);
        Due.is("task(1, 2)", x.task(1, 2), 0);
        Due.is("slot(500)", x.slot(500), 16);
        Due.is("register(1)", x.register(1), 3);
    }

    private static void notSealedByAFault() {
        ThriftNode x = new ThriftNode();
        program(x, 0, 0, Asm.set(1, 3), true);
        Due.is("seal()", x.seal(), 1);
        program(x, 0, 1, Asm.end(0), true);
        Due.is("seal()", x.seal(), 0);
    }
}
