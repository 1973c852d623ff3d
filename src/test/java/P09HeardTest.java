/** Promise 9: heard: what the far side keeps. */
public final class P09HeardTest {
    public static void main(String[] args) {
        whatWasNotOnTheAir();
        payloads();
        theLatestSixtyFourNumbers();
        eachNumberOnce();
        Due.end("P09HeardTest");
    }

    private static void heard(ThriftNode x, int number, boolean has) {
        String call = "heard(" + number + ")";
        if (has) {
            Due.is(call, Due.outcome(() -> x.heard(number)), String.valueOf(number + 1));
        } else {
            Due.throwsIt(call, IndexOutOfBoundsException.class, () -> x.heard(number));
        }
    }

    private static void whatWasNotOnTheAir() {
        ThriftNode x = Frames.node();
        heard(x, 0, false);
        // A frame that is committed has not been heard yet.
        Asm.stepsAndCut(x, Frames.stepsToAir(0) - 1, 500);
        Due.is("NUMBER", x.kept(Asm.NUMBER, false), 8);
        heard(x, 0, false);
        x.cut(1);
        x.slot(500);
        Due.is("not noted yet: SENT", x.kept(Asm.SENT, false), 0);
        heard(x, 0, true);
        for (int number : new int[] {1, 2, 64, -1, -64, Integer.MIN_VALUE, Integer.MAX_VALUE}) {
            heard(x, number, false);
        }
    }

    private static void payloads() {
        ThriftNode x = Asm.sealed(Asm.code(Asm.sense(0, 0), Asm.send(0), Asm.sense(1, 1), Asm.send(1), Asm.end(1)),
            Asm.code(Asm.go(0)));
        x.sense(0, Integer.MIN_VALUE);
        x.sense(1, -1);
        Asm.slots(x, 2, 500, 16);
        Due.is("heard(0)", x.heard(0), Integer.MIN_VALUE);
        Due.is("heard(1)", x.heard(1), -1);
        Due.throwsIt("heard(2)", IndexOutOfBoundsException.class, () -> x.heard(2));
    }

    private static void theLatestSixtyFourNumbers() {
        for (int last : new int[] {20, 62, 63, 64, 65, 72, 130}) {
            ThriftNode x = Frames.cutWithFrameOnAir(last);
            for (int number = -1; number <= last + 2; number++) {
                heard(x, number, number >= 0 && number <= last && number > last - 64);
            }
        }
    }

    /** Repeats take no place of another number. */
    private static void eachNumberOnce() {
        ThriftNode x = Frames.cutWithFrameOnAir(64);
        for (int k = 0; k < 70; k++) {
            Frames.repeat(x);
        }
        for (int number = -1; number <= 66; number++) {
            heard(x, number, number >= 1 && number <= 64);
        }
        Asm.stepsAndCut(x, 3, 500);
        heard(x, 1, false);
        heard(x, 2, true);
        heard(x, 65, true);
    }
}
