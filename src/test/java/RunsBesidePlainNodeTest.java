import java.util.Random;

/** Many runs of at most 512 calls, each call asked of ThriftNode and of PlainNode (all promises). */
public final class RunsBesidePlainNodeTest {
    private static final int RUNS = 4000;
    private static final int CALLS = 512;
    private static final int[] ODD = {-1, -2, Integer.MIN_VALUE, Integer.MAX_VALUE, 16, 64, 164, 500};

    private final Random random;
    private final ThriftNode x = new ThriftNode();
    private final PlainNode y = new PlainNode();
    private final StringBuilder told = new StringBuilder();
    private final int harvest;
    private final int cutOften;
    private int calls = 0;
    private boolean same = true;

    private RunsBesidePlainNodeTest(int seed) {
        random = new Random(seed);
        harvest = 20 + random.nextInt(481);
        cutOften = random.nextInt(3) == 0 ? 2 + random.nextInt(30) : 0;
    }

    public static void main(String[] args) {
        int wrongRuns = 0;
        for (int seed = 0; seed < RUNS && wrongRuns < 3; seed++) {
            RunsBesidePlainNodeTest run = new RunsBesidePlainNodeTest(seed);
            run.go();
            Due.is("the run with seed " + seed + " has the same answers", run.same, true);
            wrongRuns += run.same ? 0 : 1;
        }
        Due.end("RunsBesidePlainNodeTest");
    }

    private void go() {
        if (random.nextInt(10) == 0) {
            ask(9);
        }
        writeTasks();
        ask(9);
        while (calls < CALLS && same) {
            ask(random.nextInt(3) == 0 ? 0 : random.nextInt(12));
        }
    }

    private void writeTasks() {
        int tasks = 1 + random.nextInt(4);
        for (int t = 0; t < tasks; t++) {
            int[] words = random.nextInt(4) == 0 ? wideTask(tasks) : anyTask(tasks);
            for (int i = 0; i < words.length; i++) {
                program(t, i, words[i]);
            }
        }
        if (random.nextInt(8) == 0) {
            program(random.nextInt(18) - 1, random.nextInt(34) - 1, random.nextInt());
        }
    }

    private int[] anyTask(int tasks) {
        int length = 1 + random.nextInt(random.nextInt(3) == 0 ? 32 : 12);
        int[] words = new int[length];
        for (int i = 0; i < length - 1; i++) {
            words[i] = instruction(i, length, tasks);
        }
        words[length - 1] = random.nextInt(12) == 0 ? Asm.go(random.nextInt(length)) : Asm.end(random.nextInt(tasks));
        return words;
    }

    /** Comes near 38 pending words, or to it. */
    private int[] wideTask(int tasks) {
        int[] rows = {Asm.set(2, 1), Asm.set(3, 8), Asm.store(1, 0, 1), Asm.store(1, 1, 1), Asm.store(1, 2, 1),
            Asm.store(1, 3, 1), Asm.add(1, 1, 2), Asm.sub(3, 3, 2), Asm.zero(3, 10), Asm.go(2)};
        int length = 12 + random.nextInt(21);
        int[] words = new int[length];
        for (int i = 0; i < length - 1; i++) {
            words[i] = i < rows.length ? rows[i] : instruction(i, length, tasks);
        }
        words[length - 1] = Asm.end(random.nextInt(tasks));
        return words;
    }

    private int instruction(int i, int length, int tasks) {
        int a = random.nextInt(8);
        int b = random.nextInt(8);
        int c = random.nextInt(8);
        int later = random.nextInt(6) == 0 ? random.nextInt(length) : i + 1 + random.nextInt(length - i - 1);
        switch (random.nextInt(20)) {
            case 0: return random.nextInt(4) == 0 ? Asm.end(random.nextInt(tasks)) : Asm.bind();
            case 1: return Asm.set(a, random.nextInt(20) - 5);
            case 2: return Asm.word(2 + random.nextInt(4), a, b, c);
            case 3: return Asm.set(a, random.nextInt());
            case 4: return Asm.mul(a, b, c);
            case 5: return Asm.xor(a, b, c);
            case 6: return Asm.zero(a, later);
            case 7: return random.nextInt(3) == 0 ? Asm.go(later) : Asm.sub(a, b, c);
            case 8: return Asm.get(a, random.nextInt(16));
            case 9: case 18: return Asm.put(a, random.nextInt(16));
            case 10: return Asm.load(a, random.nextInt(4), c);
            case 11: return Asm.store(a, random.nextInt(4), c);
            case 12: case 19: return Asm.push(a, random.nextInt(2));
            case 13: return Asm.pop(a, random.nextInt(2));
            case 14: return Asm.sense(a, random.nextInt(4));
            case 15: case 16: return Asm.send(a);
            default: return Asm.bound(random.nextInt(3));
        }
    }

    private void program(int task, int i, int word) {
        look("program(" + task + ", " + i + ", " + word + ")", () -> x.program(task, i, word) ? 1 : 0,
            () -> y.program(task, i, word) ? 1 : 0);
    }

    /** A number below a bound, and at times one that is not. */
    private int near(int bound) {
        return random.nextInt(20) == 0 ? ODD[random.nextInt(ODD.length)] : random.nextInt(bound + 1);
    }

    private void ask(int kind) {
        int k = near(new int[] {harvest, 40, 3, 163, 65, 20, 9, 15, 7, 0, 163, 163}[kind]);
        int what = near(2);
        int v = random.nextInt(6) - 2;
        boolean worn = random.nextBoolean();
        switch (kind) {
            case 0:
                look("slot(" + k + ")", () -> x.slot(k), () -> y.slot(k));
                break;
            case 1:
                if (cutOften != 0) {
                    int n = random.nextInt(10) == 0 ? near(10000) : random.nextInt(cutOften + 1);
                    look("cut(" + n + ")", () -> x.cut(n) ? 1 : 0, () -> y.cut(n) ? 1 : 0);
                }
                break;
            case 2:
                look("sense(" + k + ", " + v + ")", () -> x.sense(k, v) ? 1 : 0, () -> y.sense(k, v) ? 1 : 0);
                break;
            case 4:
                look("aired(" + k + ", " + what + ")", () -> x.aired(k, what), () -> y.aired(k, what));
                break;
            case 5:
                int number = random.nextInt(20) == 0 ? k : y.state(9) - k;
                look("heard(" + number + ")", () -> x.heard(number), () -> y.heard(number));
                break;
            case 6:
                look("state(" + k + ")", () -> x.state(k), () -> y.state(k));
                break;
            case 7:
                int t = random.nextBoolean() ? k : random.nextInt(4);
                look("task(" + t + ", " + what + ")", () -> x.task(t, what), () -> y.task(t, what));
                break;
            case 8:
                look("register(" + k + ")", () -> x.register(k), () -> y.register(k));
                break;
            case 9:
                look("seal()", () -> x.seal(), () -> y.seal());
                break;
            default:
                look("kept(" + k + ", " + worn + ")", () -> x.kept(k, worn), () -> y.kept(k, worn));
                break;
        }
    }

    private void look(String call, Due.Call it, Due.Call plain) {
        if (calls >= CALLS || !same) {
            return;
        }
        calls++;
        String got = Due.outcome(it);
        String want = Due.outcome(plain);
        told.append(call).append(" = ").append(got).append('\n');
        same = got.equals(want);
        if (!same) {
            System.out.println(told + "due is " + want);
        }
    }
}
