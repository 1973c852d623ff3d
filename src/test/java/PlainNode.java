import java.util.ArrayDeque;
import java.util.ArrayList;
import java.util.Arrays;
import java.util.Deque;
import java.util.LinkedHashMap;
import java.util.List;
import java.util.Map;
import java.util.TreeMap;

/**
 * The document once more, in another form: every write that is to come stands in a queue of writes,
 * pending words are a map, and nothing that was on the air is forgotten. RunsBesidePlainNodeTest
 * asks it and ThriftNode the same.
 */
final class PlainNode {
    /** What is gone when the power fails. */
    private static final class Try {
        final Map<Integer, Integer> pending = new LinkedHashMap<>();
        final int[] registers = new int[8];
        int task;
        int next;
        int spent;
        Integer bound;
    }

    private final List<List<Integer>> code = new ArrayList<>();
    private final int[] kept = new int[164];
    private final int[] wear = new int[164];
    private final int[] sensors = new int[4];
    private final int[] estimate = new int[16];
    private final int[] failures = new int[16];
    private final List<int[]> aired = new ArrayList<>();
    private final TreeMap<Integer, Integer> far = new TreeMap<>();
    private final Deque<int[]> writes = new ArrayDeque<>();
    private Try now = null;
    private boolean sealed = false;
    private boolean noted = true;
    private int phase = 0;
    private int energy = 0;
    private int slots = 0;
    private int cut = 0;
    private int givenUp = -1;
    private int powerFailures = 0;
    private int abandoned = 0;

    PlainNode() {
        for (int t = 0; t < 16; t++) {
            code.add(new ArrayList<>());
        }
    }

    boolean program(int task, int i, int word) {
        if (sealed || task < 0 || task > 15 || i < 0 || i > 31 || i > code.get(task).size()) {
            return false;
        }
        if (i == code.get(task).size()) {
            code.get(task).add(word);
        } else {
            code.get(task).set(i, word);
        }
        return true;
    }

    int seal() {
        if (sealed) {
            return 0;
        }
        if (code.get(0).isEmpty()) {
            return 1;
        }
        for (int t = 0; t < 16; t++) {
            for (int i = 0; i < code.get(t).size(); i++) {
                if (!isSound(t, i)) {
                    return 1 + 32 * t + i;
                }
            }
        }
        sealed = true;
        return 0;
    }

    private boolean isSound(int t, int i) {
        int word = code.get(t).get(i);
        int op = word >> 24 & 255;
        int a = word >> 16 & 255;
        int b = word >> 8 & 255;
        int c = word & 255;
        boolean last = i == code.get(t).size() - 1;
        switch (op) {
            case 0:
                return a < 16 && !code.get(a).isEmpty();
            case 7:
                return b < code.get(t).size();
            case 1: case 15:
                return !last && a < 8;
            case 2: case 3: case 4: case 5:
                return !last && a < 8 && b < 8 && c < 8;
            case 6:
                return !last && a < 8 && b < code.get(t).size();
            case 8: case 9:
                return !last && a < 8 && b < 16;
            case 10: case 11:
                return !last && a < 8 && b < 4 && c < 8;
            case 12: case 13:
                return !last && a < 8 && b < 2;
            case 14:
                return !last && a < 8 && b < 4;
            case 16: case 17:
                return !last;
            default:
                return false;
        }
    }

    int slot(int harvest) {
        if (!sealed) {
            throw new IllegalStateException();
        }
        if (harvest < 0 || harvest > 500) {
            throw new IllegalArgumentException();
        }
        energy += harvest;
        if (energy > 2000) {
            energy = 2000;
        }
        slots++;
        if (phase == 0) {
            int asked = 60 + estimate[kept[0]];
            if (givenUp >= 0 || energy < (asked > 2000 ? 2000 : asked)) {
                return -1;
            }
            boot();
        }
        int steps = 0;
        while (phase != 0 && steps < 16) {
            if (!step()) {
                return steps;
            }
            steps++;
        }
        return steps;
    }

    private void boot() {
        energy -= 60;
        phase = 2;
        if (kept[2] != 0) {
            phase = 1;
            for (int e = 0; e < kept[2]; e++) {
                writes.add(new int[] {kept[84 + 2 * e], kept[85 + 2 * e]});
            }
            writes.add(new int[] {2, 0});
        }
    }

    private boolean step() {
        if (phase == 2 && kept[4] == kept[3]) {
            now = new Try();
            now.task = kept[0];
            phase = 3;
        }
        int cost = 4;
        if (phase == 2 && noted) {
            cost = 20;
        }
        if (phase == 3) {
            cost = new int[] {1, 1, 1, 1, 4, 1, 1, 1, 2, 2, 2, 2, 3, 3, 10, 3, 1, 1}[current() >>> 24];
        }
        if (cost > energy) {
            fail();
            return false;
        }
        energy -= cost;
        if (now != null) {
            now.spent += cost;
        }
        if (phase == 2) {
            air();
        } else if (phase == 3) {
            run();
        } else {
            writeNext();
        }
        if (cut > 0 && --cut == 0) {
            fail();
        }
        return true;
    }

    private int current() {
        return code.get(now.task).get(now.next);
    }

    private void write(int at, int what) {
        kept[at] = what;
        wear[at]++;
    }

    private void air() {
        if (noted) {
            int number = kept[4];
            int payload = kept[68 + number % 16];
            aired.add(0, new int[] {number, payload});
            far.putIfAbsent(number, payload);
        } else {
            write(4, kept[4] + 1);
        }
        noted = !noted;
    }

    private void writeNext() {
        int[] next = writes.remove();
        write(next[0], next[1]);
        if (!writes.isEmpty()) {
            return;
        }
        if (phase == 4) {
            if (now.spent > estimate[now.task]) {
                estimate[now.task] = now.spent;
            }
            failures[now.task] = 0;
        }
        now = null;
        phase = 2;
    }

    private void fail() {
        if (phase == 3 || phase == 4 && kept[2] == 0) {
            int t = kept[0];
            failures[t]++;
            int twice = 2 * (now.spent > estimate[t] ? now.spent : estimate[t]);
            estimate[t] = twice > 1940 ? 1940 : twice;
            if (failures[t] == 12) {
                givenUp = t;
            }
        }
        powerFailures++;
        phase = 0;
        now = null;
        noted = true;
        writes.clear();
    }

    private int see(int at) {
        return now.pending.containsKey(at) ? now.pending.get(at) : kept[at];
    }

    /** Pairs of where and what: all of them, or none if there would be more than 38 words. */
    private boolean pend(int... pairs) {
        Map<Integer, Integer> more = new LinkedHashMap<>(now.pending);
        for (int k = 0; k < pairs.length; k += 2) {
            more.put(pairs[k], pairs[k + 1]);
        }
        if (more.size() > 38) {
            return false;
        }
        now.pending.putAll(more);
        return true;
    }

    private void run() {
        int word = current();
        int a = word >> 16 & 255;
        int b = word >> 8 & 255;
        int c = word & 255;
        int[] r = now.registers;
        now.next++;
        switch (word >>> 24) {
            case 0: end(a); break;
            case 1: r[a] = b >= 128 ? b * 256 + c - 65536 : b * 256 + c; break;
            case 2: r[a] = r[b] + r[c]; break;
            case 3: r[a] = r[b] - r[c]; break;
            case 4: r[a] = r[b] * r[c]; break;
            case 5: r[a] = r[b] ^ r[c]; break;
            case 6: now.next = r[a] == 0 ? b : now.next; break;
            case 7: now.next = b; break;
            case 8: r[a] = see(8 + b); break;
            case 9: pend(8 + b, r[a]); break;
            case 10: r[a] = see(24 + 8 * b + Math.floorMod(r[c], 8)); break;
            case 11: pend(24 + 8 * b + Math.floorMod(r[c], 8), r[a]); break;
            case 12: push(r, a, 56 + 6 * b); break;
            case 13: pop(r, a, 56 + 6 * b); break;
            case 14: r[a] = sensors[b]; break;
            case 15: send(r, a); break;
            case 16: now.bound = slots; break;
            default:
                if (now.bound != null && slots > now.bound + a) {
                    abandoned++;
                    now = null;
                    phase = 2;
                }
                break;
        }
    }

    private void end(int a) {
        phase = 4;
        List<int[]> entries = new ArrayList<>();
        now.pending.forEach((at, what) -> entries.add(new int[] {at, what}));
        entries.add(new int[] {0, a});
        entries.add(new int[] {1, kept[1] + 1});
        int at = 84;
        for (int[] entry : entries) {
            writes.add(new int[] {at++, entry[0]});
            writes.add(new int[] {at++, entry[1]});
        }
        writes.add(new int[] {2, entries.size()});
        writes.addAll(entries);
        writes.add(new int[] {2, 0});
    }

    private void push(int[] r, int a, int queue) {
        int many = see(queue + 1);
        boolean done = many < 4 && pend(queue + 2 + (see(queue) + many) % 4, r[a], queue + 1, many + 1);
        r[7] = done ? 1 : 0;
    }

    private void pop(int[] r, int a, int queue) {
        int first = see(queue);
        int many = see(queue + 1);
        if (many == 0) {
            r[a] = 0;
            r[7] = 0;
        } else if (pend(queue, (first + 1) % 4, queue + 1, many - 1)) {
            r[a] = see(queue + 2 + first);
            r[7] = 1;
        } else {
            r[7] = 0;
        }
    }

    private void send(int[] r, int a) {
        int number = see(3);
        boolean done = number - kept[4] < 16 && pend(68 + number % 16, r[a], 3, number + 1);
        r[7] = done ? 1 : 0;
    }

    boolean cut(int n) {
        boolean good = n >= 0 && n <= 10000;
        cut = good ? n : cut;
        return good;
    }

    boolean sense(int k, int v) {
        boolean good = k >= 0 && k <= 3;
        if (good) {
            sensors[k] = v;
        }
        return good;
    }

    int kept(int at, boolean worn) {
        if (at < 0 || at > 163) {
            throw new IndexOutOfBoundsException();
        }
        return (worn ? wear : kept)[at];
    }

    int aired(int k, int what) {
        boolean has = k >= 0 && k < 64 && k < aired.size() && (what == 0 || what == 1);
        return has ? aired.get(k)[what] : -1;
    }

    int heard(int number) {
        if (!far.tailMap(far.isEmpty() ? 0 : far.lastKey() - 63).containsKey(number)) {
            throw new IndexOutOfBoundsException();
        }
        return far.get(number);
    }

    int state(int what) {
        int[] all = {phase, energy, slots, now == null ? 0 : now.spent, now == null ? 0 : now.pending.size(),
            phase == 3 ? now.next : 0, givenUp, powerFailures, abandoned, aired.size()};
        return what >= 0 && what < all.length ? all[what] : -1;
    }

    int task(int t, int what) {
        if (t < 0 || t > 15 || what < 0 || what > 2) {
            return -1;
        }
        return Arrays.asList(estimate[t], failures[t], code.get(t).size()).get(what);
    }

    int register(int k) {
        return now == null || k < 0 || k > 7 ? 0 : now.registers[k];
    }
}
