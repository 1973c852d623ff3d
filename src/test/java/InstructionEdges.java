/** The boundaries that the terms name for each instruction. */
final class InstructionEdges {
    private static final int LEAST = Integer.MIN_VALUE;
    private static final int MOST = Integer.MAX_VALUE;
    // SET, 16 times round with four, SEND and ZERO once more, PUT and END.
    private static final int STEPS_OF_SENDS_ALL = 1 + 16 * 4 + 2 + 2;

    private InstructionEdges() {
    }

    static void all() {
        Edge.of("0 END a (1): COMMITS; then task a is next.", InstructionEdges::endToTheLastTaskAndToItself);
        Edge.of("1 SET a, bc (1): register a becomes b * 256 + c, as a number of 16 bits with its sign.",
            InstructionEdges::sixteenBits);
        Edge.of("2 ADD, 3 SUB, 4 MUL, 5 XOR a, b, c (1; MUL 4): register a becomes register b .. register c (as ints).",
            InstructionEdges::intsGoRound, InstructionEdges::oneRegisterForAll);
        Edge.of("6 ZERO a, b (1): if register a is 0, instruction b is next.", InstructionEdges::justZero,
            InstructionEdges::zeroToTheFirstAndLast);
        Edge.of("7 GO b (1): instruction b is next.", InstructionEdges::goToTheFirstAndLast);
        Edge.of("8 GET a, b (2): register a becomes CELL b.", InstructionEdges::getFirstAndLast);
        Edge.of("9 PUT a, b (2): CELL b becomes register a.", InstructionEdges::putFirstAndLast);
        Edge.of("10 LOAD a, b, c (2): register a becomes the word of ROW b with the number in register c (its lowest 3 "
            + "bits).", InstructionEdges::loadByLowestBits);
        Edge.of("11 STORE a, b, c (2): the other way round.", InstructionEdges::storeByLowestBits);
        Edge.of("12 PUSH a, b (3): register a comes behind QUEUE b, register 7 becomes 1; if that is full, just register"
            + " 7 becomes 0.", InstructionEdges::pushToTheLastPlace, InstructionEdges::pushToAFullOne,
            InstructionEdges::pushRegisterSeven);
        Edge.of("13 POP a, b (3): register a becomes the first one of QUEUE b, which goes, register 7 becomes 1; if it "
            + "is empty, both become 0 (register 7 last).", InstructionEdges::popTheLastOne,
            InstructionEdges::popFromAnEmptyOne, InstructionEdges::popToRegisterSeven);
        Edge.of("14 SENSE a, b (10): register a becomes the reading of sensor b (0 .. 3).",
            InstructionEdges::firstAndLastSensor);
        Edge.of("15 SEND a (3): a frame with payload register a, register 7 becomes 1; if NUMBER less SENT is 16, just "
            + "register 7 becomes 0.", InstructionEdges::sixteenFrames, InstructionEdges::sixteenAgainOnceNoted,
            InstructionEdges::sendRegisterSeven);
        Edge.of("16 BIND (1): notes the number of the slot.", InstructionEdges::theLatestBind);
        Edge.of("17 BOUND a (1): if a BIND was done in this attempt, and this slot's number is more than a above the one"
            + " that the latest one noted, the attempt is ABANDONED.", InstructionEdges::justAndOneMore,
            InstructionEdges::noBind, InstructionEdges::slotsWithoutPowerCount);
        Edge.of("What a task writes (CELLS, ROWS, QUEUES, payloads, NUMBER) is PENDING: it sees that itself, in place of"
            + " the kept word; kept words stay.", InstructionEdges::seesWhatItWrote, InstructionEdges::keptWordsStay);
        Edge.of("PUSH writes its place, (where the first one is + how many) % 4, then how many; POP where the first one"
            + " is (one more, % 4), then how many; SEND the payload, then NUMBER.", InstructionEdges::pushGoesRound,
            InstructionEdges::popGoesRound, InstructionEdges::sendGoesRound);
    }

    private static void endToTheLastTaskAndToItself() {
        ThriftNode x = new ThriftNode();
        Asm.write(x, 0, Asm.end(15));
        Asm.write(x, 15, Asm.bind(), Asm.end(15));
        Due.is("seal()", x.seal(), 0);
        Asm.stepsAndCut(x, 1 + Asm.commit(0), 500);
        Asm.words(x, "the last task", 0, 15, 1);
        Asm.stepsAndCut(x, 2 * (2 + Asm.commit(0)), 500);
        Asm.words(x, "itself", 0, 15, 3);
    }

    private static void sixteenBits() {
        ThriftNode x = Asm.ran(Asm.word(1, 0, 127, 255), Asm.word(1, 1, 128, 0), Asm.word(1, 2, 255, 255),
            Asm.word(1, 3, 0, 255), Asm.word(1, 4, 1, 0), Asm.word(1, 5, 255, 0), Asm.word(1, 6, 128, 1),
            Asm.word(1, 7, 0, 0));
        Asm.registers(x, "SET", 32767, -32768, -1, 255, 256, -256, -32767, 0);
    }

    private static void intsGoRound() {
        ThriftNode x = Asm.sealed(Asm.held(Asm.sense(0, 0), Asm.sense(1, 1), Asm.set(2, 1), Asm.set(3, -1),
            Asm.add(4, 0, 2), Asm.sub(5, 1, 2), Asm.mul(6, 1, 3), Asm.xor(7, 1, 3)));
        x.sense(0, MOST);
        x.sense(1, LEAST);
        x.slot(500);
        Asm.registers(x, "round", MOST, LEAST, 1, -1, LEAST, MOST, LEAST, MOST);
        ThriftNode y = Asm.ran(Asm.set(0, 256), Asm.mul(0, 0, 0), Asm.mul(1, 0, 0), Asm.set(2, -1), Asm.add(3, 0, 2),
            Asm.mul(4, 3, 3));
        Asm.registers(y, "lowest 32 bits", 65536, 0, -1, 65535, -131071);
    }

    private static void oneRegisterForAll() {
        ThriftNode x = Asm.ran(Asm.set(4, 5), Asm.add(4, 4, 4), Asm.set(5, 5), Asm.sub(5, 5, 5), Asm.set(6, -5),
            Asm.mul(6, 6, 6), Asm.set(7, 5), Asm.xor(7, 7, 7));
        Asm.registers(x, "a, b and c the same", 0, 0, 0, 0, 10, 0, 25, 0);
    }

    private static void justZero() {
        for (int v : new int[] {0, 1, -1, LEAST, MOST}) {
            ThriftNode x = Asm.sealed(Asm.held(Asm.sense(7, 0), Asm.zero(7, 3), Asm.set(1, 9), Asm.set(2, 9)));
            x.sense(0, v);
            x.slot(500);
            Asm.registers(x, "ZERO of " + v, 0, v == 0 ? 0 : 9, 9);
        }
    }

    private static void zeroToTheFirstAndLast() {
        ThriftNode x = Asm.sealed(Asm.join(Asm.code(Asm.zero(0, 31)), Asm.times(30, Asm.set(1, 9)),
            Asm.code(Asm.go(31))));
        x.slot(500);
        Due.is("to the last one: state(5)", x.state(5), 31);
        Due.is("nothing between", x.register(1), 0);
        ThriftNode y = Asm.sealed(Asm.join(Asm.times(30, Asm.add(0, 0, 0)), Asm.code(Asm.zero(0, 0), Asm.end(0))));
        Asm.slots(y, 2, 500, 16);
        Due.is("to the first one: state(5)", y.state(5), 1);
        ThriftNode z = Asm.sealed(Asm.code(Asm.zero(0, 0), Asm.end(0)));
        Asm.slots(z, 2, 500, 16);
        Asm.states(z, "to itself", Asm.RUN, 908, 2, 32, 0, 0);
    }

    private static void goToTheFirstAndLast() {
        ThriftNode x = Asm.sealed(Asm.join(Asm.code(Asm.go(31)), Asm.times(30, Asm.set(1, 9)), Asm.code(Asm.go(0))));
        Asm.slots(x, 1, 500, 16);
        Asm.states(x, "to and fro", Asm.RUN, 424, 1, 16, 0, 0);
        Due.is("nothing between", x.register(1), 0);
        ThriftNode y = Asm.sealed(Asm.join(Asm.times(31, Asm.add(0, 0, 0)), Asm.code(Asm.go(31))));
        Asm.slots(y, 3, 500, 16);
        Due.is("the last one to itself: state(5)", y.state(5), 31);
    }

    private static void getFirstAndLast() {
        ThriftNode x = Asm.sealed(
            Asm.code(Asm.set(0, 4), Asm.put(0, 0), Asm.set(0, 5), Asm.put(0, 15), Asm.end(1)),
            Asm.held(Asm.get(0, 15), Asm.get(7, 0), Asm.get(1, 14), Asm.get(2, 1)));
        Asm.slots(x, 2, 500, 16);
        Asm.registers(x, "GET", 5, 0, 0, 0, 0, 0, 0, 4);
        Due.is("nothing is pending", x.state(4), 0);
    }

    private static void putFirstAndLast() {
        ThriftNode x = Asm.sealed(Asm.code(Asm.set(0, 4), Asm.set(7, 5), Asm.put(7, 0), Asm.put(0, 15), Asm.end(0)));
        Asm.stepsAndCut(x, 5 + Asm.commit(2), 500);
        Asm.words(x, "PUT", Asm.CELLS, 5, 0, 0, 0, 0, 0, 0, 0, 0, 0, 0, 0, 0, 0, 0, 4);
    }

    private static void loadByLowestBits() {
        int[] numbers = {0, 7, 8, 15, -1, -8, LEAST, MOST};
        int[] wanted = {50, 57, 50, 57, 57, 50, 50, 57};
        for (int k = 0; k < numbers.length; k++) {
            ThriftNode x = Asm.sealed(Asm.held(Asm.set(1, 50), Asm.store(1, 3, 0), Asm.set(2, 57), Asm.set(3, 7),
                Asm.store(2, 3, 3), Asm.sense(4, 0), Asm.load(5, 3, 4), Asm.load(6, 0, 4)));
            x.sense(0, numbers[k]);
            x.slot(500);
            Due.is("LOAD with " + numbers[k], x.register(5), wanted[k]);
            Due.is("another row", x.register(6), 0);
        }
    }

    private static void storeByLowestBits() {
        int[] numbers = {0, 7, 8, 15, -1, -8, LEAST, MOST};
        for (int number : numbers) {
            ThriftNode x = Asm.sealed(Asm.code(Asm.sense(1, 0), Asm.set(0, 5), Asm.store(0, 0, 1), Asm.store(0, 3, 1),
                Asm.end(0)));
            x.sense(0, number);
            Asm.stepsAndCut(x, 5 + Asm.commit(2), 500);
            int[] row = new int[8];
            row[number & 7] = 5;
            Asm.words(x, "STORE with " + number, 23, Asm.join(Asm.code(0), row, new int[16], row, Asm.code(0)));
        }
    }

    private static void pushToTheLastPlace() {
        ThriftNode x = Asm.ran(Asm.set(0, 9), Asm.push(0, 1), Asm.push(0, 1), Asm.push(0, 1), Asm.set(7, 5),
            Asm.push(0, 1));
        Asm.registers(x, "the fourth one", 9, 0, 0, 0, 0, 0, 0, 1);
        Due.is("four places and how many: state(4)", x.state(4), 5);
    }

    private static void pushToAFullOne() {
        int[] four = Asm.code(Asm.set(0, 9), Asm.push(0, 1), Asm.push(0, 1), Asm.push(0, 1), Asm.push(0, 1));
        ThriftNode x = Asm.sealed(Asm.join(four, Asm.code(Asm.set(0, 8), Asm.set(7, 5), Asm.push(0, 1),
            Asm.put(7, 0), Asm.end(1))), Asm.held(Asm.set(0, 7), Asm.set(7, 5), Asm.push(0, 1)));
        Asm.slots(x, 4, 500, 16);
        Asm.words(x, "the fifth one", 62, 0, 4, 9, 9, 9, 9);
        Asm.words(x, "was told", Asm.CELLS, 0);
        Asm.registers(x, "a kept one that is full", 7, 0, 0, 0, 0, 0, 0, 0);
        Due.is("nothing is pending", x.state(4), 0);
    }

    private static void pushRegisterSeven() {
        ThriftNode x = Asm.ran(Asm.set(7, 5), Asm.push(7, 0), Asm.push(7, 0), Asm.pop(0, 0), Asm.pop(1, 0));
        Asm.registers(x, "what it was before", 5, 1, 0, 0, 0, 0, 0, 1);
    }

    private static void popTheLastOne() {
        ThriftNode x = Asm.ran(Asm.set(0, 9), Asm.push(0, 0), Asm.set(7, 5), Asm.pop(1, 0), Asm.add(2, 7, 6),
            Asm.set(3, 5), Asm.pop(3, 0));
        Asm.registers(x, "one, and then none", 9, 9, 1, 0, 0, 0, 0, 0);
    }

    private static void popFromAnEmptyOne() {
        ThriftNode x = Asm.ran(Asm.set(0, 9), Asm.set(7, 5), Asm.pop(0, 0));
        Asm.registers(x, "empty", 0, 0, 0, 0, 0, 0, 0, 0);
        Asm.states(x, "empty", Asm.RUN, 440 - 18, 1, 18, 0, 3);
        ThriftNode y = Asm.ran(Asm.set(7, 5), Asm.push(7, 1), Asm.set(0, 9), Asm.pop(0, 0));
        Asm.registers(y, "the other one has one", 0, 0, 0, 0, 0, 0, 0, 0);
        Due.is("state(4)", y.state(4), 2);
    }

    private static void popToRegisterSeven() {
        ThriftNode x = Asm.ran(Asm.set(0, 9), Asm.push(0, 0), Asm.pop(7, 0));
        Asm.registers(x, "it came", 9, 0, 0, 0, 0, 0, 0, 1);
        ThriftNode y = Asm.ran(Asm.set(7, 9), Asm.pop(7, 0));
        Asm.registers(y, "none came", 0, 0, 0, 0, 0, 0, 0, 0);
    }

    private static void firstAndLastSensor() {
        ThriftNode x = Asm.sealed(Asm.held(Asm.sense(7, 0), Asm.sense(0, 3), Asm.sense(1, 1)));
        x.sense(0, MOST);
        x.sense(3, LEAST);
        x.slot(500);
        Asm.registers(x, "readings", LEAST, 0, 0, 0, 0, 0, 0, MOST);
    }

    /** Sends until register 7 becomes 0, and tells in cell 0 how often it became 1. */
    private static int[] sendsAll(int next) {
        return Asm.code(Asm.set(1, 1), Asm.send(0), Asm.zero(7, 5), Asm.add(0, 0, 1), Asm.go(1), Asm.put(0, 0),
            Asm.end(next));
    }

    private static void sixteenFrames() {
        ThriftNode x = Asm.sealed(sendsAll(0));
        // 16 payloads, NUMBER and cell 0.
        Asm.stepsAndCut(x, STEPS_OF_SENDS_ALL + Asm.commit(18), 500);
        Due.is("the 17th one is not done", x.kept(Asm.CELLS, false), 16);
        Due.is("NUMBER", x.kept(Asm.NUMBER, false), 16);
        Asm.words(x, "payloads", Asm.PAYLOADS, 0, 1, 2, 3, 4, 5, 6, 7, 8, 9, 10, 11, 12, 13, 14, 15);
    }

    private static void sixteenAgainOnceNoted() {
        ThriftNode x = Asm.sealed(sendsAll(0));
        int one = STEPS_OF_SENDS_ALL + Asm.commit(18);
        Asm.stepsAndCut(x, one + 32 + one, 500);
        Due.is("SENT", x.kept(Asm.SENT, false), 16);
        Due.is("NUMBER", x.kept(Asm.NUMBER, false), 32);
        Due.is("cell 0", x.kept(Asm.CELLS, false), 16);
    }

    private static void sendRegisterSeven() {
        ThriftNode x = Asm.sealed(Asm.code(Asm.set(7, 5), Asm.send(7), Asm.send(7), Asm.end(0)));
        Asm.stepsAndCut(x, 4 + Asm.commit(3), 500);
        Asm.words(x, "what it was before", Asm.PAYLOADS, 5, 1, 0);
    }

    /** The BIND of slot 1 would be too old in slot 3, the one of slot 2 is not. */
    private static void theLatestBind() {
        ThriftNode x = Asm.sealed(Asm.join(Asm.code(Asm.bind()), Asm.times(15, Asm.add(0, 0, 0)),
            Asm.code(Asm.bind()), Asm.times(13, Asm.add(0, 0, 0)), Asm.code(Asm.bound(1), Asm.go(30))));
        Asm.slots(x, 3, 500, 16);
        Due.is("one above the latest: state(8)", x.state(8), 0);
        Asm.slots(x, 1, 500, 16);
        Due.is("two above the latest: state(8)", x.state(8), 1);
    }

    private static void justAndOneMore() {
        for (int a : new int[] {0, 1, 2, 127, 128, 254, 255}) {
            ThriftNode x = Asm.sealed(Asm.code(Asm.bind(), Asm.bound(a), Asm.go(1)));
            Asm.slots(x, a + 1, 100, 16);
            Due.is("just " + a + " above: state(8)", x.state(8), 0);
            x.slot(100);
            Due.is("one more than " + a + ": state(8)", x.state(8), 1);
        }
    }

    private static void noBind() {
        ThriftNode x = Asm.sealed(Asm.code(Asm.bound(0), Asm.go(0)));
        Asm.slots(x, 20, 100, 16);
        Due.is("none at all: state(8)", x.state(8), 0);
        // The power fails behind the BIND; the next attempt comes to its BOUND in a later slot.
        ThriftNode y = Asm.sealed(Asm.code(Asm.bound(0), Asm.bind(), Asm.go(2)));
        Asm.stepsAndCut(y, 3, 500);
        Asm.slots(y, 3, 0, 16);
        Due.is("of an attempt that failed: state(8)", y.state(8), 0);
        ThriftNode z = Asm.sealed(Asm.code(Asm.bind(), Asm.end(1)), Asm.code(Asm.bound(0), Asm.go(0)));
        Asm.slots(z, 20, 100, 16);
        Due.is("of an attempt that came through: state(8)", z.state(8), 0);
    }

    /** Slots that were off have numbers as well, but no attempt outlives them. */
    private static void slotsWithoutPowerCount() {
        ThriftNode x = Asm.sealed(Asm.code(Asm.bind(), Asm.bound(0), Asm.go(1)));
        Asm.slots(x, 5, 10, -1);
        Asm.slots(x, 1, 100, 16);
        Asm.states(x, "in its first slot", Asm.RUN, 74, 6, 16, 0, 2, -1, 0, 0);
        x.slot(0);
        Due.is("in its second slot: state(8)", x.state(8), 1);
    }

    private static void seesWhatItWrote() {
        ThriftNode x = Asm.ran(Asm.set(0, 5), Asm.put(0, 3), Asm.get(1, 3), Asm.store(0, 2, 0), Asm.load(2, 2, 0),
            Asm.push(0, 1), Asm.pop(3, 1), Asm.pop(4, 1), Asm.set(0, 6), Asm.put(0, 3), Asm.get(5, 3));
        Asm.registers(x, "seen", 6, 5, 5, 5, 0, 6, 0, 0);
        // Two SENDs have two numbers.
        ThriftNode y = Asm.ran(Asm.send(0), Asm.send(0));
        Due.is("two payloads and NUMBER: state(4)", y.state(4), 3);
    }

    private static void keptWordsStay() {
        ThriftNode x = Asm.ran(Asm.set(0, 5), Asm.put(0, 3), Asm.store(0, 2, 0), Asm.push(0, 1), Asm.send(0));
        Asm.words(x, "kept", 0, new int[164]);
        Asm.wears(x, "kept", 0, new int[164]);
        Due.is("state(4)", x.state(4), 6);
    }

    private static void pushGoesRound() {
        // The first one comes to place 3; then the next ones go to the places 3, 0 and 1.
        ThriftNode x = Asm.sealed(
            Asm.code(Asm.push(0, 0), Asm.push(0, 0), Asm.push(0, 0), Asm.pop(0, 0), Asm.pop(0, 0), Asm.pop(0, 0),
                Asm.end(1)),
            Asm.code(Asm.set(1, 51), Asm.push(1, 0), Asm.set(1, 52), Asm.push(1, 0), Asm.set(1, 53), Asm.push(1, 0),
                Asm.end(0)));
        Asm.stepsAndCut(x, 7 + Asm.commit(5), 500);
        Asm.words(x, "three went", Asm.QUEUES, 3, 0);
        Asm.stepsAndCut(x, 7 + 12, 500);
        Asm.words(x, "place, how many, places", Asm.LIST, 61, 51, 57, 3, 58, 52, 59, 53, 0, 0, 1, 2);
    }

    private static void popGoesRound() {
        ThriftNode x = Asm.sealed(
            Asm.code(Asm.push(0, 0), Asm.push(0, 0), Asm.push(0, 0), Asm.pop(0, 0), Asm.pop(0, 0), Asm.pop(0, 0),
                Asm.set(1, 51), Asm.push(1, 0), Asm.set(1, 52), Asm.push(1, 0), Asm.end(1)),
            Asm.code(Asm.pop(1, 0), Asm.put(1, 0), Asm.end(2)),
            Asm.code(Asm.pop(1, 0), Asm.put(1, 0), Asm.end(2)));
        Asm.stepsAndCut(x, 11 + Asm.commit(6), 500);
        Asm.words(x, "two are there", Asm.QUEUES, 3, 2, 52, 0, 0, 51);
        Asm.stepsAndCut(x, 3 + Asm.commit(3), 500);
        Asm.words(x, "where the first one is, how many, the cell", Asm.LIST, 56, 0, 57, 1, 8, 51, 0, 2, 1, 2);
        Asm.stepsAndCut(x, 3 + Asm.commit(3), 500);
        Asm.words(x, "the next one", Asm.LIST, 56, 1, 57, 0, 8, 52);
        Asm.words(x, "the places stay", Asm.QUEUES, 1, 0, 52, 0, 0, 51);
    }

    private static void sendGoesRound() {
        ThriftNode x = Asm.sealed(sendsAll(1), Asm.code(Asm.set(1, 51), Asm.send(1), Asm.end(0)));
        Asm.stepsAndCut(x, STEPS_OF_SENDS_ALL + 2 * 20, 500);
        Asm.words(x, "the payload, NUMBER, the payloads", Asm.LIST, 68, 0, 3, 16, 69, 1, 70, 2);
        Asm.words(x, "the last payload, the cell", Asm.LIST + 2 * 16, 83, 15, 8, 16, 0, 1, 1, 1);
        Asm.stepsAndCut(x, STEPS_OF_SENDS_ALL + Asm.commit(18) + 32 + 3 + 8, 500);
        Asm.words(x, "frame 16 in the first place", Asm.LIST, 68, 51, 3, 17, 0, 0, 1, 2);
    }
}
