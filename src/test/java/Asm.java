/** Instructions by name, and nodes that are ready to run. */
final class Asm {
    static final int OFF = 0;
    static final int REPLAY = 1;
    static final int AIR = 2;
    static final int RUN = 3;
    static final int COMMIT = 4;

    static final int TASK = 0;
    static final int COMMITS = 1;
    static final int MARK = 2;
    static final int NUMBER = 3;
    static final int SENT = 4;
    static final int CELLS = 8;
    static final int ROWS = 24;
    static final int QUEUES = 56;
    static final int PAYLOADS = 68;
    static final int LIST = 84;

    private Asm() {
    }

    static int word(int op, int a, int b, int c) {
        return op << 24 | a << 16 | b << 8 | c;
    }

    static int end(int task) {
        return word(0, task, 0, 0);
    }

    static int set(int a, int value) {
        return word(1, a, value >> 8 & 255, value & 255);
    }

    static int add(int a, int b, int c) {
        return word(2, a, b, c);
    }

    static int sub(int a, int b, int c) {
        return word(3, a, b, c);
    }

    static int mul(int a, int b, int c) {
        return word(4, a, b, c);
    }

    static int xor(int a, int b, int c) {
        return word(5, a, b, c);
    }

    static int zero(int a, int instruction) {
        return word(6, a, instruction, 0);
    }

    static int go(int instruction) {
        return word(7, 0, instruction, 0);
    }

    static int get(int a, int cell) {
        return word(8, a, cell, 0);
    }

    static int put(int a, int cell) {
        return word(9, a, cell, 0);
    }

    static int load(int a, int row, int c) {
        return word(10, a, row, c);
    }

    static int store(int a, int row, int c) {
        return word(11, a, row, c);
    }

    static int push(int a, int queue) {
        return word(12, a, queue, 0);
    }

    static int pop(int a, int queue) {
        return word(13, a, queue, 0);
    }

    static int sense(int a, int sensor) {
        return word(14, a, sensor, 0);
    }

    static int send(int a) {
        return word(15, a, 0, 0);
    }

    static int bind() {
        return word(16, 0, 0, 0);
    }

    static int bound(int a) {
        return word(17, a, 0, 0);
    }

    /** The instructions one after the other, from parts. */
    static int[] join(int[]... parts) {
        int length = 0;
        for (int[] part : parts) {
            length += part.length;
        }
        int[] all = new int[length];
        int at = 0;
        for (int[] part : parts) {
            System.arraycopy(part, 0, all, at, part.length);
            at += part.length;
        }
        return all;
    }

    static int[] code(int... words) {
        return words;
    }

    static int[] times(int n, int word) {
        int[] all = new int[n];
        java.util.Arrays.fill(all, word);
        return all;
    }

    /** The instructions, and then a GO to itself, so that the attempt stays where it can be seen. */
    static int[] held(int... words) {
        return join(words, code(go(words.length)));
    }

    static void write(ThriftNode x, int task, int... words) {
        for (int i = 0; i < words.length; i++) {
            Due.is("program(" + task + ", " + i + ", " + words[i] + ")", x.program(task, i, words[i]), true);
        }
    }

    /** A sealed node whose task k has the k-th instructions. */
    static ThriftNode sealed(int[]... tasks) {
        ThriftNode x = new ThriftNode();
        for (int t = 0; t < tasks.length; t++) {
            write(x, t, tasks[t]);
        }
        Due.is("seal()", x.seal(), 0);
        return x;
    }

    /** A node whose one task has done these instructions (16 at the most) and waits behind them. */
    static ThriftNode ran(int... words) {
        ThriftNode x = sealed(held(words));
        Due.is("slot(500)", x.slot(500), 16);
        return x;
    }

    static void slots(ThriftNode x, int n, int harvest, int want) {
        for (int k = 0; k < n; k++) {
            Due.is("slot(" + harvest + ") no. " + k, x.slot(harvest), want);
        }
    }

    /** Does just n steps, and then the power fails. */
    static void stepsAndCut(ThriftNode x, int n, int harvest) {
        x.cut(n);
        int left = n;
        while (left > 0) {
            int done = x.slot(harvest);
            Due.is("slot(" + harvest + ") with " + left + " steps to the cut", done, Math.min(16, left));
            if (done <= 0) {
                return;
            }
            left -= done;
        }
        Due.is("state(0) behind the cut", x.state(0), OFF);
    }

    /** How many steps the commit of so many pending words takes: two and one for each entry, MARK twice. */
    static int commit(int pending) {
        return 3 * (pending + 2) + 2;
    }

    static void task(ThriftNode x, String when, int t, int estimate, int failures) {
        Due.is(when + ": task(" + t + ", 0)", x.task(t, 0), estimate);
        Due.is(when + ": task(" + t + ", 1)", x.task(t, 1), failures);
    }

    static void registers(ThriftNode x, String when, int... want) {
        for (int k = 0; k < want.length; k++) {
            Due.is(when + ": register(" + k + ")", x.register(k), want[k]);
        }
    }

    /** Kept words from a place on. */
    static void words(ThriftNode x, String when, int at, int... want) {
        for (int k = 0; k < want.length; k++) {
            Due.is(when + ": kept(" + (at + k) + ", false)", x.kept(at + k, false), want[k]);
        }
    }

    static void wears(ThriftNode x, String when, int at, int... want) {
        for (int k = 0; k < want.length; k++) {
            Due.is(when + ": kept(" + (at + k) + ", true)", x.kept(at + k, true), want[k]);
        }
    }

    static void states(ThriftNode x, String when, int... want) {
        for (int k = 0; k < want.length; k++) {
            Due.is(when + ": state(" + k + ")", x.state(k), want[k]);
        }
    }
}
