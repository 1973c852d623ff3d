/** What each instruction does and costs (promises 4, 10 and 12). */
public final class InstructionsTest {
    public static void main(String[] args) {
        costs();
        sets();
        arithmetic();
        jumps();
        cells();
        rows();
        queueInOrder();
        queueFullAndEmpty();
        queueGoesRound();
        queuesAreApart();
        queueAndRegisterSeven();
        frames();
        framesInPlaces();
        pendingOverKept();
        bounds();
        Due.end("InstructionsTest");
    }

    private static void costs() {
        int[] costs = {-1, 1, 1, 1, 4, 1, 1, -1, 2, 2, 2, 2, 3, 3, 10, 3, 1, 1};
        int[] pending = {0, 0, 0, 0, 0, 0, 0, 0, 0, 1, 0, 1, 2, 0, 0, 2, 0, 0};
        for (int op = 1; op < costs.length; op++) {
            if (op == 7) {
                continue;
            }
            // ZERO goes to instruction 1, where it would go anyway.
            ThriftNode x = Asm.ran(op == 6 ? Asm.zero(0, 1) : op << 24);
            Asm.states(x, "OP " + op, Asm.RUN, 440 - costs[op] - 15, 1, costs[op] + 15, pending[op], 1);
        }
        ThriftNode go = Asm.sealed(Asm.code(Asm.go(0)));
        go.slot(500);
        Asm.states(go, "GO", Asm.RUN, 440 - 16, 1, 16, 0, 0);
        ThriftNode end = Asm.sealed(Asm.code(Asm.end(0)));
        end.slot(500);
        // END and 8 words; END and 6.
        Asm.states(end, "END", Asm.COMMIT, 440 - 33 - 25, 1, 25, 0, 0);
        Due.is("END: ESTIMATE", end.task(0, 0), 33);
    }

    private static void sets() {
        ThriftNode x = Asm.ran(Asm.set(0, 0), Asm.set(1, 1), Asm.set(2, 255), Asm.set(3, 256), Asm.set(4, 32767),
            Asm.set(5, -32768), Asm.set(6, -1), Asm.set(7, -256));
        Asm.registers(x, "SET", 0, 1, 255, 256, 32767, -32768, -1, -256);
    }

    private static void arithmetic() {
        ThriftNode x = Asm.sealed(Asm.held(Asm.sense(0, 0), Asm.sense(1, 1), Asm.add(2, 0, 1), Asm.sub(3, 0, 1),
            Asm.mul(4, 0, 1), Asm.xor(5, 0, 1), Asm.sub(6, 1, 0), Asm.xor(7, 7, 7)));
        x.sense(0, Integer.MAX_VALUE);
        x.sense(1, -3);
        x.slot(500);
        int a = Integer.MAX_VALUE;
        Asm.registers(x, "ints", a, -3, a - 3, a + 3, a * -3, a ^ -3, -3 - a, 0);
        ThriftNode y = Asm.ran(Asm.set(1, 5), Asm.add(1, 1, 1), Asm.mul(1, 1, 1), Asm.set(2, 7), Asm.sub(2, 2, 1),
            Asm.xor(1, 1, 2));
        Asm.registers(y, "in place", 0, 100 ^ -93, -93, 0);
    }

    private static void jumps() {
        ThriftNode x = Asm.ran(Asm.zero(0, 3), Asm.set(1, 1), Asm.set(2, 1), Asm.set(3, 1), Asm.zero(3, 6),
            Asm.set(4, 1), Asm.go(8), Asm.set(5, 1), Asm.set(6, 1));
        Asm.registers(x, "jumps", 0, 0, 0, 1, 1, 0, 1, 0);
        Due.is("state(3)", x.state(3), 16);
        // Backwards: counts down from 3.
        ThriftNode y = Asm.ran(Asm.set(0, 3), Asm.set(1, 1), Asm.zero(0, 6), Asm.sub(0, 0, 1), Asm.add(2, 2, 1),
            Asm.go(2));
        Asm.registers(y, "down to 0", 0, 1, 3);
        Due.is("state(5)", y.state(5), 6);
        ThriftNode z = Asm.ran(Asm.set(0, -1), Asm.zero(0, 3), Asm.set(1, 1), Asm.set(2, 1));
        Asm.registers(z, "below 0 is not 0", -1, 1, 1);
    }

    private static void cells() {
        ThriftNode x = Asm.sealed(
            Asm.code(Asm.set(0, 40), Asm.put(0, 0), Asm.set(0, 41), Asm.put(0, 15), Asm.end(1)),
            Asm.held(Asm.get(1, 0), Asm.get(2, 15), Asm.get(3, 7), Asm.set(4, 50), Asm.put(4, 0), Asm.get(5, 0)));
        // 5 in RUN, 4 entries with 14 in COMMIT.
        Asm.slots(x, 3, 500, 16);
        Asm.registers(x, "GET", 0, 40, 41, 0, 50, 50);
        Due.is("the kept word stays", x.kept(Asm.CELLS, false), 40);
        Due.is("cell 15", x.kept(Asm.CELLS + 15, false), 41);
        Due.is("state(4)", x.state(4), 1);
    }

    private static void rows() {
        ThriftNode x = Asm.sealed(
            Asm.code(Asm.set(0, 70), Asm.set(1, 7), Asm.store(0, 0, 2), Asm.store(0, 3, 1), Asm.set(1, -3),
                Asm.store(1, 2, 1), Asm.end(1)),
            Asm.held(Asm.load(0, 0, 0), Asm.set(1, 15), Asm.load(2, 3, 1), Asm.set(3, 13), Asm.load(3, 2, 3),
                Asm.store(1, 2, 1), Asm.set(4, 7), Asm.load(5, 2, 4), Asm.load(6, 1, 4)));
        Asm.slots(x, 4, 500, 16);
        Asm.registers(x, "LOAD", 70, 15, 70, -3, 7, 15, 0);
        Asm.words(x, "rows", Asm.ROWS, 70, 0, 0, 0, 0, 0, 0, 0);
        Asm.words(x, "rows", Asm.ROWS + 8, 0, 0, 0, 0, 0, 0, 0, 0);
        Asm.words(x, "rows", Asm.ROWS + 16, 0, 0, 0, 0, 0, -3, 0, 0);
        Asm.words(x, "rows", Asm.ROWS + 24, 0, 0, 0, 0, 0, 0, 0, 70);
    }

    private static void queueInOrder() {
        ThriftNode x = Asm.ran(Asm.set(0, 5), Asm.push(0, 0), Asm.set(0, 6), Asm.push(0, 0), Asm.add(5, 7, 5),
            Asm.pop(1, 0), Asm.add(5, 7, 5), Asm.pop(2, 0), Asm.add(5, 7, 5), Asm.set(3, 9), Asm.pop(3, 0));
        Asm.registers(x, "first in, first out", 6, 5, 6, 0, 0, 3, 0, 0);
        // Two places, how many, where the first one is.
        Due.is("state(4)", x.state(4), 4);
    }

    private static void queueFullAndEmpty() {
        ThriftNode x = Asm.sealed(
            Asm.code(Asm.set(0, 1), Asm.push(0, 1), Asm.add(0, 0, 0), Asm.push(0, 1), Asm.add(0, 0, 0),
                Asm.push(0, 1), Asm.add(0, 0, 0), Asm.push(0, 1), Asm.put(7, 0), Asm.add(0, 0, 0), Asm.push(0, 1),
                Asm.put(7, 1), Asm.put(0, 2), Asm.end(1)),
            Asm.held(Asm.pop(0, 1), Asm.pop(1, 1), Asm.pop(2, 1), Asm.pop(3, 1), Asm.add(4, 7, 6), Asm.set(5, 9),
                Asm.pop(5, 1)));
        // 14 in RUN, 10 entries with 32 in COMMIT.
        Asm.slots(x, 4, 500, 16);
        Asm.words(x, "full", Asm.QUEUES + 6, 0, 4, 1, 2, 4, 8);
        Asm.words(x, "register 7 told it", Asm.CELLS, 1, 0, 16);
        Asm.registers(x, "emptied", 1, 2, 4, 8, 1, 0, 0, 0);
        Asm.words(x, "queue 0", Asm.QUEUES, 0, 0, 0, 0, 0, 0);
    }

    private static void queueGoesRound() {
        // Two in, two out at first; then one in and one out in each commit.
        ThriftNode x = Asm.sealed(
            Asm.code(Asm.set(0, 100), Asm.push(0, 0), Asm.push(0, 0), Asm.push(0, 0), Asm.end(1)),
            Asm.code(Asm.get(0, 0), Asm.set(1, 1), Asm.add(0, 0, 1), Asm.put(0, 0), Asm.push(0, 0), Asm.pop(2, 0),
                Asm.put(2, 1), Asm.end(1)));
        // 5 and 6 entries with 20 in COMMIT.
        Asm.stepsAndCut(x, 25, 500);
        Asm.words(x, "three", Asm.QUEUES, 0, 3, 100, 100, 100, 0);
        int[] places = {100, 100, 100, 0};
        for (int k = 1; k <= 9; k++) {
            // 8 in RUN; cell 0, place, how many, first, cell 1, TASK, COMMITS: 23 in COMMIT.
            Asm.stepsAndCut(x, 31, 500);
            places[(k + 2) % 4] = k;
            Asm.words(x, "round " + k, Asm.QUEUES, k % 4, 3, places[0], places[1], places[2], places[3]);
            Due.is("out came", x.kept(Asm.CELLS + 1, false), k <= 3 ? 100 : k - 3);
        }
    }

    private static void queuesAreApart() {
        ThriftNode x = Asm.ran(Asm.set(0, 5), Asm.push(0, 0), Asm.set(0, 6), Asm.push(0, 1), Asm.pop(1, 0),
            Asm.pop(2, 0), Asm.pop(3, 1), Asm.pop(4, 1));
        Asm.registers(x, "two queues", 6, 5, 0, 6, 0, 0, 0, 0);
    }

    private static void queueAndRegisterSeven() {
        ThriftNode x = Asm.ran(Asm.set(7, 55), Asm.push(7, 0), Asm.add(1, 7, 6), Asm.set(7, 56), Asm.push(7, 0),
            Asm.pop(2, 0), Asm.pop(7, 0), Asm.add(3, 7, 6), Asm.set(7, 57), Asm.pop(7, 0), Asm.add(4, 7, 6));
        Asm.registers(x, "register 7", 0, 1, 55, 1, 0, 0, 0, 0);
        ThriftNode y = Asm.ran(Asm.set(7, 55), Asm.send(7), Asm.add(1, 7, 6), Asm.end(0));
        y.slot(500);
        Due.is("register 7 is sent", y.kept(Asm.PAYLOADS, false), 55);
    }

    /** 17 SENDs: the last one finds 16 that are not noted. */
    private static void frames() {
        ThriftNode x = Asm.sealed(
            Asm.code(Asm.set(1, 1), Asm.add(0, 0, 1), Asm.send(0), Asm.zero(7, 5), Asm.go(1), Asm.put(0, 0),
                Asm.end(1)),
            Asm.held(Asm.set(0, 90), Asm.send(0)));
        // 1, 17 times round with 3, 16 GOs, PUT, END; 16 payloads, NUMBER, cell 0 and two more: 62 in COMMIT.
        int steps = 1 + 51 + 16 + 2 + 62;
        Asm.stepsAndCut(x, steps, 500);
        Asm.words(x, "sixteen", Asm.PAYLOADS, 1, 2, 3, 4, 5, 6, 7, 8, 9, 10, 11, 12, 13, 14, 15, 16);
        Due.is("NUMBER", x.kept(Asm.NUMBER, false), 16);
        Due.is("the one too many", x.kept(Asm.CELLS, false), 17);
        Due.is("SENT", x.kept(Asm.SENT, false), 0);
        Due.is("wear of the first payload", x.kept(Asm.PAYLOADS, true), 1);
        // 32 in AIR; then the next task has room again.
        Asm.slots(x, 3, 500, 16);
        Due.is("SENT", x.kept(Asm.SENT, false), 16);
        Asm.registers(x, "room again", 90, 0, 0, 0, 0, 0, 0, 1);
        Due.is("heard(15)", x.heard(15), 16);
    }

    private static void framesInPlaces() {
        ThriftNode x = Frames.cutWithFrameOnAir(24);
        Asm.words(x, "frame n at n % 16", Asm.PAYLOADS, 17, 18, 19, 20, 21, 22, 23, 24, 25, 26, 27, 28, 29, 30, 31, 32);
        Due.is("NUMBER", x.kept(Asm.NUMBER, false), 32);
        Due.is("SENT", x.kept(Asm.SENT, false), 24);
    }

    /** Nothing of an attempt that failed is kept or seen by the next one. */
    private static void pendingOverKept() {
        ThriftNode x = Asm.sealed(Asm.held(Asm.get(1, 0), Asm.pop(2, 0), Asm.load(3, 0, 4), Asm.set(0, 8),
            Asm.put(0, 0), Asm.push(0, 0), Asm.store(0, 0, 4), Asm.send(0), Asm.get(5, 0), Asm.load(6, 0, 4)));
        for (int k = 0; k < 3; k++) {
            Due.is("slot(500)", x.slot(500), 16);
            Asm.registers(x, "a new attempt", 8, 0, 0, 0, 0, 8, 8, 1);
            Due.is("state(4)", x.state(4), 6);
            Asm.words(x, "kept", 0, new int[84]);
            x.cut(1);
            x.slot(500);
        }
    }

    private static void bounds() {
        for (int a = 0; a < 4; a++) {
            // The BOUND stands in a round of two, so each slot has some.
            ThriftNode x = Asm.sealed(Asm.code(Asm.bind(), Asm.bound(a), Asm.go(1)));
            Asm.slots(x, a + 1, 500, 16);
            Due.is("within " + a + ": state(8)", x.state(8), 0);
            x.slot(500);
            Due.is("above " + a + ": state(8)", x.state(8), 1);
        }
        ThriftNode last = Asm.sealed(Asm.code(Asm.bind(), Asm.bound(255), Asm.go(1)));
        Asm.slots(last, 256, 100, 16);
        Due.is("255 slots: state(8)", last.state(8), 0);
        last.slot(100);
        Due.is("256 slots: state(8)", last.state(8), 1);
        ThriftNode never = Asm.sealed(Asm.code(Asm.bound(0), Asm.go(0)));
        Asm.slots(never, 10, 500, 16);
        Due.is("no BIND: state(8)", never.state(8), 0);
        ThriftNode again = Asm.sealed(Asm.code(Asm.bind(), Asm.bound(0), Asm.bind(), Asm.go(2)));
        Asm.slots(again, 10, 500, 16);
        Due.is("no BOUND later: state(8)", again.state(8), 0);
        theLatestBind();
        aBindOfAnotherAttempt();
    }

    private static void theLatestBind() {
        // A BOUND is 15 steps behind its BIND: it may be one slot later, and never two.
        ThriftNode x = Asm.sealed(Asm.join(Asm.code(Asm.bind()), Asm.times(14, Asm.add(0, 0, 0)),
            Asm.code(Asm.bound(1), Asm.go(0))));
        Asm.slots(x, 20, 500, 16);
        Due.is("the latest BIND counts: state(8)", x.state(8), 0);
    }

    private static void aBindOfAnotherAttempt() {
        // Task 0 binds and goes to task 1, where a BOUND comes many slots later.
        ThriftNode x = Asm.sealed(Asm.code(Asm.bind(), Asm.end(1)), Asm.code(Asm.bound(0), Asm.go(0)));
        Asm.slots(x, 10, 500, 16);
        Due.is("not in this attempt: state(8)", x.state(8), 0);
        // The attempt behind one that was abandoned has no BIND until it comes to its own.
        ThriftNode y = Asm.sealed(Asm.code(Asm.bound(0), Asm.bind(), Asm.go(0)));
        Asm.slots(y, 1, 500, 16);
        Due.is("one slot: state(8)", y.state(8), 0);
        Asm.slots(y, 1, 500, 16);
        // Slot 1 ends behind a BOUND: BIND is next, so slot 2 binds anew and does not abandon.
        Due.is("two slots: state(8)", y.state(8), 0);
        Asm.slots(y, 1, 500, 16);
        // Slot 2 ends behind a BIND: slot 3 has GO and the BOUND that abandons, once.
        Due.is("three slots: state(8)", y.state(8), 1);
    }
}
