/** An attempt has at most 38 pending words (promises 4, 7, 10 and 12). */
public final class PendingLimitTest {
    /** How many steps it takes to the instruction behind 38 pending words: all rows, cells 0 .. 5. */
    static final int STEPS = 65 + 6;

    private static final int BEHIND_ROWS = 10;

    public static void main(String[] args) {
        cellsAtTheLimit();
        rowsAtTheLimit();
        queuesAtTheLimit();
        queuesJustBelowTheLimit();
        queuesWithinTheLimit();
        emptyAndFullQueuesAtTheLimit();
        framesAtTheLimit();
        theWholeListIsCommitted();
        Due.end("PendingLimitTest");
    }

    /** All 32 words of the rows become pending, word k of each with k, by 65 steps that cost 97. */
    static int[] allRows() {
        return Asm.code(Asm.set(2, 1), Asm.set(3, 8), Asm.store(1, 0, 1), Asm.store(1, 1, 1), Asm.store(1, 2, 1),
            Asm.store(1, 3, 1), Asm.add(1, 1, 2), Asm.sub(3, 3, 2), Asm.zero(3, BEHIND_ROWS), Asm.go(2));
    }

    static int[] cells(int n) {
        int[] puts = new int[n];
        for (int k = 0; k < n; k++) {
            puts[k] = Asm.put(2, k);
        }
        return puts;
    }

    static int[] fullAttempt(int... tail) {
        return Asm.join(allRows(), cells(6), tail);
    }

    /** Runs until the attempt waits at its last instruction. */
    private static ThriftNode held(int[] code) {
        ThriftNode x = Asm.sealed(Asm.held(code));
        Asm.slots(x, 8, 500, 16);
        Due.is("the attempt waits", x.state(5), code.length);
        return x;
    }

    private static void cellsAtTheLimit() {
        ThriftNode x = held(fullAttempt(Asm.set(0, 50), Asm.set(7, 9), Asm.put(0, 6), Asm.put(0, 15), Asm.put(0, 5),
            Asm.get(4, 6), Asm.get(5, 5), Asm.get(6, 4)));
        Asm.registers(x, "38 words, cells", 50, 8, 1, 0, 0, 50, 1, 9);
        Due.is("state(4)", x.state(4), 38);
        ThriftNode y = held(Asm.join(allRows(), cells(5), Asm.code(Asm.set(0, 50), Asm.put(0, 6), Asm.put(0, 7),
            Asm.get(4, 6), Asm.get(5, 7))));
        Asm.registers(y, "the 38th word, a cell", 50, 8, 1, 0, 50, 0);
        Due.is("state(4)", y.state(4), 38);
        // 97 for the rows, 10 for the cells; 1 + 2 + 2 + 2 + 2, and GO for the rest of 128 steps.
        Due.is("a write that is left out is paid", y.state(3), 97 + 10 + 9 + 128 - 65 - 5 - 5);
    }

    private static void rowsAtTheLimit() {
        ThriftNode x = held(Asm.join(Asm.code(Asm.set(2, 1), Asm.set(3, 8), Asm.store(1, 0, 1), Asm.store(1, 1, 1),
            Asm.store(1, 2, 1), Asm.add(1, 1, 2), Asm.sub(3, 3, 2), Asm.zero(3, 9), Asm.go(2)), cells(14),
            Asm.code(Asm.set(7, 9), Asm.store(7, 3, 3), Asm.store(7, 2, 3), Asm.load(4, 3, 3), Asm.load(5, 2, 3),
                Asm.load(6, 2, 2))));
        Asm.registers(x, "38 words, rows", 0, 8, 1, 0, 0, 9, 1, 9);
        Due.is("state(4)", x.state(4), 38);
    }

    private static void queuesAtTheLimit() {
        // The place and how many are words 37 and 38: then nothing more may come to that queue or go.
        ThriftNode x = held(Asm.join(allRows(), cells(4), Asm.code(Asm.set(0, 70), Asm.push(0, 1), Asm.add(4, 7, 7),
            Asm.push(0, 1), Asm.add(5, 7, 3), Asm.set(6, 33), Asm.set(7, 5), Asm.pop(6, 1))));
        Asm.registers(x, "38 words, queue 1", 70, 8, 1, 0, 2, 0, 33, 0);
        Due.is("state(4)", x.state(4), 38);
        ThriftNode y = held(fullAttempt(Asm.set(7, 5), Asm.push(1, 0)));
        Asm.registers(y, "38 words, queue 0", 0, 8, 1, 0, 0, 0, 0, 0);
        Due.is("state(4)", y.state(4), 38);
    }

    private static void queuesJustBelowTheLimit() {
        // 37 words: both of a PUSH are too many; one of a second PUSH is not.
        ThriftNode x = held(Asm.join(allRows(), cells(5), Asm.code(Asm.set(7, 5), Asm.push(1, 0))));
        Due.is("37 words, PUSH: register(7)", x.register(7), 0);
        Due.is("state(4)", x.state(4), 37);
        ThriftNode y = held(Asm.join(allRows(), cells(3), Asm.code(Asm.set(0, 70), Asm.push(0, 0), Asm.set(0, 71),
            Asm.set(7, 5), Asm.push(0, 0), Asm.add(4, 7, 3), Asm.pop(6, 0), Asm.add(5, 7, 3))));
        Asm.registers(y, "37 words, PUSH again", 71, 8, 1, 0, 1, 0, 0, 0);
        Due.is("state(4)", y.state(4), 38);
        // 37 words: a POP that has how many already needs one more.
        ThriftNode z = held(Asm.join(allRows(), cells(3), Asm.code(Asm.set(0, 70), Asm.push(0, 0), Asm.set(7, 5),
            Asm.pop(6, 0), Asm.add(5, 7, 3), Asm.set(4, 9), Asm.pop(4, 0))));
        Asm.registers(z, "37 words, POP", 70, 8, 1, 0, 0, 1, 70, 0);
        Due.is("state(4)", z.state(4), 38);
    }

    /** With 38 words, what takes no further one is done as ever. */
    private static void queuesWithinTheLimit() {
        ThriftNode x = held(Asm.join(allRows(), cells(2), Asm.code(Asm.set(0, 70), Asm.push(0, 0), Asm.set(0, 71),
            Asm.push(0, 0), Asm.pop(4, 0), Asm.set(7, 5), Asm.pop(5, 0))));
        Asm.registers(x, "38 words, POP again", 71, 8, 1, 0, 70, 71, 0, 1);
        Due.is("state(4)", x.state(4), 38);
        ThriftNode y = held(Asm.join(allRows(), Asm.code(Asm.set(0, 70), Asm.push(0, 1), Asm.push(0, 1), Asm.push(0, 1),
            Asm.push(0, 1), Asm.pop(4, 1), Asm.set(0, 75), Asm.set(7, 5), Asm.push(0, 1), Asm.add(6, 7, 3),
            Asm.pop(5, 1), Asm.pop(5, 1), Asm.pop(5, 1), Asm.pop(5, 1))));
        Asm.registers(y, "38 words, PUSH to a place that is pending", 75, 8, 1, 0, 70, 75, 1, 1);
        Due.is("state(4)", y.state(4), 38);
    }

    private static void emptyAndFullQueuesAtTheLimit() {
        ThriftNode x = held(fullAttempt(Asm.set(7, 5), Asm.set(4, 9), Asm.pop(4, 0)));
        Asm.registers(x, "38 words, an empty queue", 0, 8, 1, 0, 0, 0, 0, 0);
        ThriftNode y = Asm.sealed(
            Asm.code(Asm.set(0, 61), Asm.push(0, 0), Asm.push(0, 0), Asm.push(0, 0), Asm.push(0, 0), Asm.end(1)),
            Asm.held(fullAttempt(Asm.set(7, 5), Asm.set(4, 9), Asm.pop(4, 0), Asm.add(5, 7, 3), Asm.set(7, 5),
                Asm.push(4, 0))));
        Asm.slots(y, 10, 500, 16);
        Asm.registers(y, "38 words, a full queue", 0, 8, 1, 0, 9, 0, 0, 0);
        Asm.words(y, "the queue stays", Asm.QUEUES, 0, 4, 61, 61, 61, 61);
        Due.is("state(4)", y.state(4), 38);
    }

    private static void framesAtTheLimit() {
        ThriftNode x = held(fullAttempt(Asm.set(7, 5), Asm.send(1)));
        Due.is("38 words, SEND: register(7)", x.register(7), 0);
        Due.is("state(4)", x.state(4), 38);
        ThriftNode y = held(Asm.join(allRows(), cells(5), Asm.code(Asm.set(7, 5), Asm.send(1))));
        Due.is("37 words, SEND: register(7)", y.register(7), 0);
        Due.is("state(4)", y.state(4), 37);
        ThriftNode z = held(Asm.join(allRows(), cells(3), Asm.code(Asm.send(1), Asm.add(4, 7, 3), Asm.send(1),
            Asm.add(5, 7, 3), Asm.send(1))));
        Asm.registers(z, "35 words, three SENDs", 0, 8, 1, 0, 1, 1, 0, 0);
        Due.is("state(4)", z.state(4), 38);
    }

    private static void theWholeListIsCommitted() {
        ThriftNode x = Asm.sealed(fullAttempt(Asm.end(1)), Asm.code(Asm.go(0)));
        Asm.stepsAndCut(x, STEPS + 1 + 122, 500);
        for (int k = 0; k < 32; k++) {
            int at = Asm.ROWS + k % 4 * 8 + k / 4;
            Asm.words(x, "list", Asm.LIST + 2 * k, at, k / 4);
            Asm.words(x, "row", at, k / 4);
        }
        Asm.words(x, "list", Asm.LIST + 64, 8, 1, 9, 1, 10, 1, 11, 1, 12, 1, 13, 1, 0, 1, 1, 1);
        Asm.words(x, "the rest", 0, 1, 1, 0, 0, 0, 0, 0, 0, 1, 1, 1, 1, 1, 1, 0, 0);
        Due.is("ESTIMATE", x.task(0, 0), 97 + 12 + 1 + 122 * 4);
        Due.is("FAILURES", x.task(0, 1), 0);
    }
}
