/** Promise 11: task, and how estimates and failures grow. */
public final class P11TaskTest {
    public static void main(String[] args) {
        noneSuch();
        lengths();
        estimateOfCommits();
        estimateOfFailures();
        estimateOfAFailureIsBounded();
        failuresEndWithACommit();
        failuresOutliveOtherEnds();
        givenUpBehindTwelve();
        theTaskThatRan();
        Due.end("P11TaskTest");
    }

    private static void noneSuch() {
        ThriftNode x = Asm.sealed(Asm.code(Asm.end(0)));
        for (int t : new int[] {-1, 16, Integer.MIN_VALUE, Integer.MAX_VALUE}) {
            for (int what = 0; what < 3; what++) {
                Due.is("task(" + t + ", " + what + ")", x.task(t, what), -1);
            }
        }
        for (int what : new int[] {-1, 3, Integer.MIN_VALUE, Integer.MAX_VALUE}) {
            Due.is("task(0, " + what + ")", x.task(0, what), -1);
            Due.is("task(15, " + what + ")", x.task(15, what), -1);
        }
    }

    private static void lengths() {
        ThriftNode x = new ThriftNode();
        Asm.write(x, 0, Asm.set(0, 1), Asm.end(0));
        Asm.write(x, 15, Asm.set(0, 1), Asm.set(0, 1), Asm.end(0));
        Due.is("task(0, 2)", x.task(0, 2), 2);
        Due.is("task(1, 2)", x.task(1, 2), 0);
        Due.is("task(15, 2)", x.task(15, 2), 3);
        x.seal();
        Due.is("sealed: task(15, 2)", x.task(15, 2), 3);
    }

    /** The most that an attempt which came through has spent. */
    private static void estimateOfCommits() {
        ThriftNode x = Asm.sealed(Asm.code(Asm.sense(0, 0), Asm.zero(0, 6), Asm.put(0, 0), Asm.set(1, 1),
            Asm.sub(0, 0, 1), Asm.go(1), Asm.end(0)));
        int[] readings = {0, 2, 1, 0, 3};
        // SENSE, ZERO, END and 2 entries; with a reading: a third entry, and 6 steps more that cost 6 each time.
        int[] spent = {12 + 32, 12 + 2 * 6 + 44, 12 + 6 + 44, 12 + 32, 12 + 3 * 6 + 44};
        int[] steps = {3 + 8, 3 + 10 + 11, 3 + 5 + 11, 3 + 8, 3 + 15 + 11};
        int most = 0;
        for (int k = 0; k < readings.length; k++) {
            x.sense(0, readings[k]);
            Asm.stepsAndCut(x, steps[k], 500);
            most = Math.max(most, spent[k]);
            Due.is("COMMITS", x.kept(Asm.COMMITS, false), k + 1);
            Asm.task(x, "reading " + readings[k], 0, most, 0);
        }
    }

    private static void estimateOfFailures() {
        ThriftNode x = Asm.sealed(Asm.code(Asm.mul(0, 0, 0), Asm.go(0)));
        Asm.stepsAndCut(x, 1, 100);
        Asm.task(x, "4 spent", 0, 8, 1);
        Asm.stepsAndCut(x, 1, 100);
        Asm.task(x, "the estimate is more than 4", 0, 16, 2);
        Asm.stepsAndCut(x, 10, 100);
        Asm.task(x, "25 spent is more than 16", 0, 50, 3);
        Asm.stepsAndCut(x, 1, 500);
        Asm.task(x, "the estimate is more than 4", 0, 100, 4);
    }

    private static void estimateOfAFailureIsBounded() {
        ThriftNode x = Asm.sealed(Asm.join(Asm.times(10, Asm.sense(0, 0)), Asm.code(Asm.go(0))));
        // 9 times round: 101 each.
        Asm.stepsAndCut(x, 99, 250);
        Asm.task(x, "909 spent", 0, 1818, 1);
        Asm.slots(x, 2, 200, -1);
        while (x.state(1) < 1878 - 200) {
            Due.is("slot(100)", x.slot(100), -1);
        }
        x.cut(1);
        Due.is("slot(500)", x.slot(500), 1);
        Asm.task(x, "at most 1940", 0, 1940, 2);
        while (x.state(1) < 1900) {
            Due.is("slot(50)", x.slot(50), -1);
        }
        Due.is("slot", x.slot(1999 - x.state(1)), -1);
        x.cut(1);
        Due.is("slot(1)", x.slot(1), 1);
        Asm.task(x, "still", 0, 1940, 3);
        ThriftNode y = Asm.sealed(Asm.code(Asm.sense(0, 0), Asm.mul(0, 0, 0), Asm.go(0)));
        // 970 spent twice is just 1940: 64 times round with 15, and a SENSE.
        Asm.stepsAndCut(y, 3 * 64 + 1, 500);
        Asm.task(y, "970 spent", 0, 1940, 1);
        ThriftNode z = Asm.sealed(Asm.code(Asm.mul(0, 0, 0), Asm.sense(0, 0), Asm.go(0)));
        // 64 times round, and a MUL, and not yet 970.
        Asm.stepsAndCut(z, 3 * 64 + 1, 500);
        Asm.task(z, "964 spent", 0, 1928, 1);
    }

    private static void failuresEndWithACommit() {
        ThriftNode x = Asm.sealed(Asm.code(Asm.set(0, 1), Asm.end(0)));
        Asm.stepsAndCut(x, 1, 500);
        Asm.stepsAndCut(x, 2, 500);
        Asm.stepsAndCut(x, 6, 500);
        // 2, then 4, then twice the 18 of SET, END and four words.
        Asm.task(x, "three failures", 0, 36, 3);
        Asm.stepsAndCut(x, 9, 500);
        Asm.task(x, "the commit is not over", 0, 36, 3);
        Due.is("COMMITS", x.kept(Asm.COMMITS, false), 1);
        // The replay takes 3, the next attempt 10.
        Asm.stepsAndCut(x, 12, 500);
        Asm.task(x, "behind a replay, and not over", 0, 36, 3);
        Asm.stepsAndCut(x, 3 + 10, 500);
        Asm.task(x, "over", 0, 36, 0);
    }

    private static void failuresOutliveOtherEnds() {
        ThriftNode x = Asm.sealed(Asm.join(Asm.code(Asm.bind()), Asm.times(15, Asm.add(0, 0, 0)),
            Asm.code(Asm.bound(0), Asm.end(0))));
        Asm.stepsAndCut(x, 2, 500);
        Asm.task(x, "a failure", 0, 4, 1);
        Asm.slots(x, 2, 500, 16);
        Due.is("abandoned", x.state(8), 1);
        Asm.task(x, "an attempt that is abandoned", 0, 4, 1);
        // The cut comes right behind the BOUND that abandons: no failure of the task.
        ThriftNode y = Asm.sealed(Asm.join(Asm.code(Asm.bind()), Asm.times(15, Asm.add(0, 0, 0)),
            Asm.code(Asm.bound(0), Asm.end(0))));
        Asm.stepsAndCut(y, 17, 500);
        Due.is("abandoned", y.state(8), 1);
        Due.is("power failures", y.state(7), 1);
        Asm.task(y, "cut behind the BOUND", 0, 0, 0);
        // The cut comes right behind END, and one before it.
        ThriftNode z = Asm.sealed(Asm.code(Asm.end(0)));
        Asm.stepsAndCut(z, 1, 500);
        Asm.task(z, "cut behind END", 0, 2, 1);
    }

    private static void givenUpBehindTwelve() {
        ThriftNode x = Asm.sealed(Asm.code(Asm.end(0)));
        for (int k = 0; k < 11; k++) {
            Asm.slots(x, 1, 0, -1);
            Due.is("slot(60)", x.slot(60), 0);
        }
        Asm.task(x, "eleven", 0, 0, 11);
        Due.is("state(6)", x.state(6), -1);
        Asm.stepsAndCut(x, 9, 500);
        Asm.task(x, "came through", 0, 33, 0);
        Due.is("state(6)", x.state(6), -1);
        for (int k = 0; k < 12; k++) {
            Due.is("state(6)", x.state(6), -1);
            while (x.state(1) + 200 < Math.min(2000, x.task(0, 0) + 60)) {
                Due.is("slot(200)", x.slot(200), -1);
            }
            x.cut(1);
            Due.is("slot(200)", x.slot(200), 1);
        }
        Asm.task(x, "twelve", 0, 1940, 12);
        Due.is("state(6)", x.state(6), 0);
        Asm.slots(x, 12, 500, -1);
        Asm.task(x, "given up", 0, 1940, 12);
        Due.is("state(7)", x.state(7), 24);
    }

    /** TASK is another one already when the commit is over: the estimate is of the one that ran. */
    private static void theTaskThatRan() {
        ThriftNode x = Asm.sealed(Asm.code(Asm.end(3)), Asm.code(), Asm.code(), Asm.code(Asm.set(0, 1), Asm.end(0)));
        Asm.stepsAndCut(x, 9, 500);
        Asm.task(x, "task 0 came through", 0, 33, 0);
        Asm.task(x, "task 3 did not run", 3, 0, 0);
        Asm.stepsAndCut(x, 1, 500);
        Asm.task(x, "task 3 failed", 3, 2, 1);
        Asm.task(x, "task 3 failed", 0, 33, 0);
        Asm.stepsAndCut(x, 10, 500);
        Asm.task(x, "task 3 came through", 3, 34, 0);
        Asm.task(x, "task 3 came through", 0, 33, 0);
    }
}
