/** The boundaries that THE FAR SIDE, aired and heard (promises 8 and 9) name. */
final class RadioEdges {
    private RadioEdges() {
    }

    static void all() {
        Edge.of("THE FAR SIDE hears each frame on the air; it keeps each number once.", RadioEdges::heardOnceOnTheAir,
            RadioEdges::repeatsTakeNoPlace);
        Edge.of("Of the frames on the air, the k-th from the latest one on (0 the latest; the latest 64): what 0: its "
            + "number, 1: its payload.", RadioEdges::theOnlyOne, RadioEdges::justSixtyFour, RadioEdges::sixtyFive,
            RadioEdges::repeatsAreFramesToo);
        Edge.of("1: its payload. NONE if there is none such, or for another what.", RadioEdges::noFrameYet,
            RadioEdges::noSuchFrame, RadioEdges::noSuchWhat, RadioEdges::aPayloadLikeNone);
        Edge.of("The payload of the frame with a number, as the far side keeps it.", RadioEdges::leastAndGreatest,
            RadioEdges::overTheSamePlace);
        Edge.of("IndexOutOfBoundsException: it has none such (it keeps the latest 64 numbers).",
            RadioEdges::noneHeardYet, RadioEdges::notOnTheAirYet, RadioEdges::theLatestSixtyFourNumbers,
            RadioEdges::wrongNumbers);
    }

    private static void heard(ThriftNode x, int number, boolean has) {
        String want = has ? String.valueOf(number + 1) : "throws.IndexOutOfBoundsException";
        Due.is("heard(" + number + ")", Due.outcome(() -> x.heard(number)), want);
    }

    private static void aired(ThriftNode x, int k, int number, int payload) {
        Due.is("aired(" + k + ", 0)", x.aired(k, 0), number);
        Due.is("aired(" + k + ", 1)", x.aired(k, 1), payload);
    }

    /** As soon as it is on the air, noted or not. */
    private static void heardOnceOnTheAir() {
        ThriftNode x = Frames.node();
        Asm.stepsAndCut(x, Frames.stepsToAir(0) - 1, 500);
        heard(x, 0, false);
        Asm.stepsAndCut(x, 1, 500);
        heard(x, 0, true);
        Due.is("SENT", x.kept(Asm.SENT, false), 0);
    }

    private static void repeatsTakeNoPlace() {
        ThriftNode x = Frames.cutWithFrameOnAir(63);
        for (int k = 0; k < 70; k++) {
            Frames.repeat(x);
        }
        Due.is("134 on the air", x.state(9), 134);
        heard(x, 0, true);
        heard(x, 62, true);
        heard(x, 63, true);
        heard(x, 64, false);
        Asm.stepsAndCut(x, 2 + Frames.IN_RUN + Frames.IN_COMMIT + 1, 500);
        heard(x, 0, false);
        heard(x, 1, true);
        heard(x, 64, true);
    }

    private static void theOnlyOne() {
        ThriftNode x = Frames.cutWithFrameOnAir(0);
        aired(x, 0, 0, 1);
        aired(x, 1, -1, -1);
    }

    private static void justSixtyFour() {
        ThriftNode x = Frames.cutWithFrameOnAir(63);
        aired(x, 0, 63, 64);
        aired(x, 62, 1, 2);
        aired(x, 63, 0, 1);
        aired(x, 64, -1, -1);
    }

    private static void sixtyFive() {
        ThriftNode x = Frames.cutWithFrameOnAir(64);
        aired(x, 0, 64, 65);
        aired(x, 63, 1, 2);
        aired(x, 64, -1, -1);
        Due.is("state(9)", x.state(9), 65);
    }

    private static void repeatsAreFramesToo() {
        ThriftNode x = Frames.cutWithFrameOnAir(1);
        for (int k = 0; k < 62; k++) {
            Frames.repeat(x);
        }
        aired(x, 62, 1, 2);
        aired(x, 63, 0, 1);
        Frames.repeat(x);
        aired(x, 63, 1, 2);
        aired(x, 64, -1, -1);
    }

    private static void noFrameYet() {
        aired(new ThriftNode(), 0, -1, -1);
        ThriftNode x = Frames.node();
        Asm.stepsAndCut(x, Frames.stepsToAir(0) - 1, 500);
        Due.is("eight are committed", x.kept(Asm.NUMBER, false), 8);
        aired(x, 0, -1, -1);
    }

    private static void noSuchFrame() {
        ThriftNode x = Frames.cutWithFrameOnAir(70);
        for (int k : new int[] {-1, -64, 64, 65, 70, 71, 128, Integer.MIN_VALUE, Integer.MAX_VALUE}) {
            aired(x, k, -1, -1);
        }
    }

    private static void noSuchWhat() {
        ThriftNode x = Frames.cutWithFrameOnAir(70);
        for (int what : new int[] {-1, 2, 3, Integer.MIN_VALUE, Integer.MAX_VALUE}) {
            Due.is("aired(0, " + what + ")", x.aired(0, what), -1);
            Due.is("aired(63, " + what + ")", x.aired(63, what), -1);
            Due.is("aired(64, " + what + ")", x.aired(64, what), -1);
        }
    }

    /** A frame may have NONE as its payload, and its number tells that it is there. */
    private static void aPayloadLikeNone() {
        ThriftNode x = Asm.sealed(Asm.code(Asm.set(0, -1), Asm.send(0), Asm.end(0)));
        Asm.stepsAndCut(x, 3 + Asm.commit(2) + 1, 500);
        aired(x, 0, 0, -1);
        Due.is("heard(0)", x.heard(0), -1);
    }

    private static void leastAndGreatest() {
        ThriftNode x = Asm.sealed(Asm.code(Asm.sense(0, 0), Asm.send(0), Asm.sense(0, 1), Asm.send(0), Asm.send(1),
            Asm.end(0)));
        x.sense(0, Integer.MIN_VALUE);
        x.sense(1, Integer.MAX_VALUE);
        Asm.stepsAndCut(x, 6 + Asm.commit(4) + 5, 500);
        Due.is("heard(0)", x.heard(0), Integer.MIN_VALUE);
        Due.is("heard(1)", x.heard(1), Integer.MAX_VALUE);
        Due.is("heard(2)", x.heard(2), 0);
    }

    /** Frames 0, 16 and 32 have the same kept word, and the far side has each of them. */
    private static void overTheSamePlace() {
        ThriftNode x = Frames.cutWithFrameOnAir(32);
        heard(x, 0, true);
        heard(x, 16, true);
        heard(x, 32, true);
        Due.is("the kept word", x.kept(Asm.PAYLOADS, false), 33);
    }

    private static void noneHeardYet() {
        heard(new ThriftNode(), 0, false);
        heard(Frames.node(), 0, false);
    }

    private static void notOnTheAirYet() {
        ThriftNode x = Frames.cutWithFrameOnAir(2);
        Due.is("eight are committed", x.kept(Asm.NUMBER, false), 8);
        heard(x, 2, true);
        heard(x, 3, false);
        heard(x, 7, false);
        heard(x, 8, false);
    }

    private static void theLatestSixtyFourNumbers() {
        for (int last = 62; last <= 66; last++) {
            ThriftNode x = Frames.cutWithFrameOnAir(last);
            heard(x, last + 1, false);
            heard(x, last, true);
            heard(x, Math.max(0, last - 63), true);
            heard(x, Math.max(0, last - 63) - 1, false);
        }
    }

    private static void wrongNumbers() {
        ThriftNode x = Frames.cutWithFrameOnAir(3);
        for (int number : new int[] {-1, -61, -64, 4, 64, 67, Integer.MIN_VALUE, Integer.MAX_VALUE}) {
            heard(x, number, false);
        }
        heard(x, 3, true);
    }
}
