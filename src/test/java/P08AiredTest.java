/** Promise 8: aired, and how frames come to the air until that is noted. */
public final class P08AiredTest {
    public static void main(String[] args) {
        noneSuch();
        inTheirOrder();
        theLatestSixtyFour();
        repeats();
        repeatsCountAmongTheLatest();
        payloads();
        costs();
        Due.end("P08AiredTest");
    }

    private static void aired(ThriftNode x, int k, int number, int payload) {
        Due.is("aired(" + k + ", 0)", x.aired(k, 0), number);
        Due.is("aired(" + k + ", 1)", x.aired(k, 1), payload);
    }

    private static void noneSuch() {
        ThriftNode x = Frames.cutWithFrameOnAir(1);
        aired(x, 0, 1, 2);
        aired(x, 1, 0, 1);
        for (int k : new int[] {2, 3, 63, 64, -1, Integer.MIN_VALUE, Integer.MAX_VALUE}) {
            aired(x, k, -1, -1);
        }
        for (int what : new int[] {-1, 2, 3, Integer.MIN_VALUE, Integer.MAX_VALUE}) {
            Due.is("aired(0, " + what + ")", x.aired(0, what), -1);
            Due.is("aired(5, " + what + ")", x.aired(5, what), -1);
        }
    }

    private static void inTheirOrder() {
        for (int last = 0; last < 20; last++) {
            ThriftNode x = Frames.cutWithFrameOnAir(last);
            for (int k = 0; k <= last; k++) {
                aired(x, k, last - k, last - k + 1);
            }
            aired(x, last + 1, -1, -1);
            Due.is("SENT", x.kept(Asm.SENT, false), last);
            Due.is("state(9)", x.state(9), last + 1);
        }
    }

    private static void theLatestSixtyFour() {
        for (int last = 62; last <= 72; last++) {
            ThriftNode x = Frames.cutWithFrameOnAir(last);
            for (int k = 0; k < 64; k++) {
                aired(x, k, k <= last ? last - k : -1, k <= last ? last - k + 1 : -1);
            }
            aired(x, 64, -1, -1);
            aired(x, 65, -1, -1);
            Due.is("state(9)", x.state(9), last + 1);
        }
    }

    private static void repeats() {
        ThriftNode x = Frames.cutWithFrameOnAir(2);
        Frames.repeat(x);
        Frames.repeat(x);
        int[] numbers = {2, 2, 2, 1, 0, -1};
        for (int k = 0; k < numbers.length; k++) {
            Due.is("aired(" + k + ", 0)", x.aired(k, 0), numbers[k]);
        }
        Due.is("state(9)", x.state(9), 5);
        Due.is("SENT", x.kept(Asm.SENT, false), 2);
        Due.is("wear of SENT", x.kept(Asm.SENT, true), 2);
        // Once noted, it does not come again.
        Asm.stepsAndCut(x, 2, 500);
        Due.is("SENT", x.kept(Asm.SENT, false), 3);
        Asm.stepsAndCut(x, 1, 500);
        aired(x, 0, 3, 4);
        aired(x, 1, 2, 3);
        Due.is("state(9)", x.state(9), 7);
    }

    private static void repeatsCountAmongTheLatest() {
        ThriftNode x = Frames.cutWithFrameOnAir(3);
        for (int k = 0; k < 61; k++) {
            Frames.repeat(x);
        }
        aired(x, 61, 3, 4);
        aired(x, 62, 2, 3);
        aired(x, 63, 1, 2);
        Frames.repeat(x);
        aired(x, 62, 3, 4);
        aired(x, 63, 2, 3);
        aired(x, 64, -1, -1);
        Due.is("state(9)", x.state(9), 66);
    }

    private static void payloads() {
        ThriftNode x = Asm.sealed(Asm.code(Asm.sense(0, 0), Asm.send(0), Asm.sense(1, 1), Asm.send(1), Asm.end(1)),
            Asm.code(Asm.go(0)));
        x.sense(0, Integer.MIN_VALUE);
        x.sense(1, -1);
        // 5 in RUN, 5 entries with 17 in COMMIT, 4 in AIR.
        Asm.stepsAndCut(x, 5 + 17 + 4, 500);
        aired(x, 0, 1, -1);
        aired(x, 1, 0, Integer.MIN_VALUE);
        Asm.words(x, "payloads", Asm.PAYLOADS, Integer.MIN_VALUE, -1, 0);
    }

    private static void costs() {
        ThriftNode x = Asm.sealed(Asm.code(Asm.send(0), Asm.end(0)));
        // 2 in RUN that cost 4, 4 entries with 14 in COMMIT: 60 in all, and the slot is over.
        Due.is("slot(500)", x.slot(500), 16);
        Asm.states(x, "committed", Asm.AIR, 500 - 60 - 60, 1, 0, 0, 0, -1, 0, 0, 0);
        Due.is("ESTIMATE", x.task(0, 0), 60);
        x.cut(1);
        Due.is("slot(0)", x.slot(0), 1);
        Due.is("20 for a frame", x.state(1), 360);
        Due.is("no failure of the task", x.task(0, 1), 0);
        x.cut(2);
        Due.is("slot(0)", x.slot(0), 2);
        Due.is("60 for the boot, 20 again, 4 for the note", x.state(1), 276);
        Due.is("SENT", x.kept(Asm.SENT, false), 1);
        Due.is("no failure of the task", x.task(0, 1), 0);
        frameThatCannotBePaid();
    }

    private static void frameThatCannotBePaid() {
        ThriftNode x = Asm.sealed(Asm.code(Asm.send(0), Asm.end(0)));
        Due.is("slot(139)", x.slot(139), 16);
        Due.is("19 left, 20 asked", x.slot(0), 0);
        Asm.states(x, "not on the air", Asm.OFF, 19, 2, 0, 0, 0, -1, 1, 0, 0);
        Due.is("no failure of the task", x.task(0, 1), 0);
        ThriftNode y = Asm.sealed(Asm.code(Asm.send(0), Asm.end(0)));
        Due.is("slot(143)", y.slot(143), 16);
        Due.is("20 and 3 left, 4 asked", y.slot(0), 1);
        Asm.states(y, "not noted", Asm.OFF, 3, 2, 0, 0, 0, -1, 1, 0, 1);
        Due.is("SENT", y.kept(Asm.SENT, false), 0);
        Due.is("no failure of the task", y.task(0, 1), 0);
    }
}
