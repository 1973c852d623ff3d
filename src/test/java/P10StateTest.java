/** Promise 10: state. */
public final class P10StateTest {
    public static void main(String[] args) {
        noOtherWhat();
        running();
        committing();
        replaying();
        onTheAir();
        abandoned();
        givenUp();
        counters();
        Due.end("P10StateTest");
    }

    private static void noOtherWhat() {
        ThriftNode x = Asm.ran(Asm.put(0, 0));
        for (ThriftNode y : new ThriftNode[] {new ThriftNode(), x}) {
            for (int what : new int[] {-1, 10, 11, Integer.MIN_VALUE, Integer.MAX_VALUE}) {
                Due.is("state(" + what + ")", y.state(what), -1);
            }
        }
    }

    private static void running() {
        ThriftNode x = Asm.sealed(Asm.join(Asm.code(Asm.put(0, 0), Asm.put(0, 1), Asm.put(1, 0)),
            Asm.times(14, Asm.bind()), Asm.code(Asm.push(0, 0), Asm.go(18))));
        x.slot(500);
        Asm.states(x, "16 done", Asm.RUN, 440 - 19, 1, 19, 2, 16, -1, 0, 0, 0);
        x.slot(7);
        Asm.states(x, "32 done", Asm.RUN, 421 + 7 - 18, 2, 37, 4, 18, -1, 0, 0, 0);
    }

    /** SPENT and the PENDING words stay to be seen until the commit's last step. */
    private static void committing() {
        ThriftNode x = Asm.sealed(Asm.code(Asm.set(0, 3), Asm.put(0, 0), Asm.put(0, 1), Asm.store(0, 0, 0),
            Asm.store(0, 1, 0), Asm.store(0, 2, 0), Asm.store(0, 3, 0), Asm.end(0)));
        // 8 in RUN that cost 14, 8 entries with 26 in COMMIT.
        x.slot(500);
        Asm.states(x, "in the list", Asm.COMMIT, 440 - 46, 1, 14 + 32, 6, 0, -1, 0, 0, 0);
        Due.is("MARK", x.kept(Asm.MARK, false), 0);
        x.slot(0);
        Asm.states(x, "applying", Asm.COMMIT, 440 - 110, 2, 14 + 96, 6, 0, -1, 0, 0, 0);
        Due.is("MARK", x.kept(Asm.MARK, false), 8);
        Due.is("cell 0", x.kept(8, false), 3);
        x.slot(0);
        // 2 to the end of the commit, 8 in RUN, 6 in COMMIT.
        Asm.states(x, "the next attempt", Asm.COMMIT, 440 - 118 - 38, 3, 14 + 24, 6, 0, -1, 0, 0, 0);
        Due.is("COMMITS", x.kept(Asm.COMMITS, false), 1);
    }

    private static void replaying() {
        ThriftNode x = Asm.sealed(PendingLimitTest.fullAttempt(Asm.end(0)));
        int run = PendingLimitTest.STEPS + 1;
        Asm.stepsAndCut(x, run + 81, 500);
        Due.is("MARK", x.kept(Asm.MARK, false), 40);
        int energy = x.state(1);
        int slot = x.state(2);
        Due.is("slot(500)", x.slot(500), 16);
        int left = Math.min(2000, energy + 500) - 60 - 64;
        Asm.states(x, "replaying", Asm.REPLAY, left, slot + 1, 0, 0, 0, -1, 1, 0, 0);
        Due.is("slot(0)", x.slot(0), 16);
        Asm.states(x, "replaying", Asm.REPLAY, left - 64, slot + 2, 0, 0, 0, -1, 1, 0, 0);
        Due.is("slot(0)", x.slot(0), 16);
        // 9 to the end of the replay, then 7 in RUN.
        Due.is("state(0)", x.state(0), Asm.RUN);
        Due.is("state(5)", x.state(5), 7);
    }

    private static void onTheAir() {
        ThriftNode x = Frames.node();
        // 20 in RUN and 38 in COMMIT leave 6 steps of the fourth slot for the air.
        Asm.slots(x, 4, 500, 16);
        int energy = x.state(1);
        Asm.states(x, "on the air", Asm.AIR, energy, 4, 0, 0, 0, -1, 0, 0, 3);
        Asm.registers(x, "on the air", new int[8]);
        Due.is("energy", energy, 2000 - 60 - 38 - 152 - 3 * 24);
        Due.is("SENT", x.kept(Asm.SENT, false), 3);
    }

    private static void abandoned() {
        ThriftNode x = Asm.sealed(Asm.join(Asm.code(Asm.bind(), Asm.put(0, 0)), Asm.times(28, Asm.add(1, 1, 1)),
            Asm.code(Asm.bound(0), Asm.end(0))));
        x.slot(500);
        Asm.states(x, "bound", Asm.RUN, 440 - 17, 1, 17, 1, 16, -1, 0, 0, 0);
        x.slot(0);
        // 15 to the BOUND, which abandons; then the next attempt's BIND.
        Asm.states(x, "abandoned", Asm.RUN, 440 - 17 - 16, 2, 1, 0, 1, -1, 0, 1, 0);
        Due.is("no FAILURE", x.task(0, 1), 0);
        Due.is("no ESTIMATE", x.task(0, 0), 0);
    }

    private static void givenUp() {
        ThriftNode x = Asm.sealed(Asm.code(Asm.end(5)), Asm.code(), Asm.code(), Asm.code(), Asm.code(),
            Asm.code(Asm.go(0)));
        Asm.stepsAndCut(x, 9, 500);
        for (int k = 0; k < 12; k++) {
            Due.is("state(6)", x.state(6), -1);
            Asm.stepsAndCut(x, 1, 500);
        }
        Due.is("state(6)", x.state(6), 5);
        Due.is("task(5, 1)", x.task(5, 1), 12);
        Due.is("task(0, 1)", x.task(0, 1), 0);
        Due.is("state(7)", x.state(7), 13);
        Due.is("slot(500)", x.slot(500), -1);
    }

    private static void counters() {
        ThriftNode x = Frames.node();
        for (int k = 1; k <= 5; k++) {
            Asm.stepsAndCut(x, 70, 500);
            Due.is("state(7)", x.state(7), k);
            Due.is("state(0)", x.state(0), Asm.OFF);
            Asm.states(x, "off", Asm.OFF, x.state(1), x.state(2), 0, 0, 0, -1, k, 0, x.state(9));
        }
    }
}
