/** A node that sends: eight frames in each attempt, frame k with payload k + 1. */
final class Frames {
    static final int IN_RUN = 20;
    static final int IN_COMMIT = 38;
    static final int IN_ATTEMPT = IN_RUN + IN_COMMIT + 16;

    private Frames() {
    }

    static ThriftNode node() {
        int[] sends = Asm.code(Asm.add(0, 0, 1), Asm.send(0));
        return Asm.sealed(Asm.join(Asm.code(Asm.get(0, 0), Asm.set(1, 1)), sends, sends, sends, sends, sends, sends,
            sends, sends, Asm.code(Asm.put(0, 0), Asm.end(0))));
    }

    /** How many steps it takes until frame k is on the air for the first time, and not yet noted. */
    static int stepsToAir(int k) {
        return k / 8 * IN_ATTEMPT + IN_RUN + IN_COMMIT + 2 * (k % 8) + 1;
    }

    static ThriftNode cutWithFrameOnAir(int k) {
        ThriftNode x = node();
        Asm.stepsAndCut(x, stepsToAir(k), 500);
        return x;
    }

    /** Boots, puts the frame that was not noted on the air again, and fails. */
    static void repeat(ThriftNode x) {
        x.cut(1);
        Due.is("a repeat: slot(500)", x.slot(500), 1);
    }
}
