/**
 * A node that lives on what it harvests: tasks run between power failures, keep what they have done
 * by lists that are marked and then applied, put frames on the air until that is noted, and wait
 * until a task is likely to come through.
 */
public final class ThriftNode {
    public static final int NONE = -1;

    private static final int TASKS = 16;
    private static final int REGISTERS = 8;
    private static final int SENSORS = 4;

    private static final int MOST_ENERGY = 2000;
    private static final int MOST_HARVEST = 500;
    private static final int BOOT_COST = 60;
    private static final int WRITE_COST = 4;
    private static final int AIR_COST = 20;
    private static final int STEPS_IN_A_SLOT = 16;
    private static final int MOST_ESTIMATE_OF_A_FAILURE = 1940;
    private static final int FAILURES_TO_GIVE_UP = 12;
    private static final int LATEST_CUT = 10000;

    private static final int OFF = 0;
    private static final int REPLAY = 1;
    private static final int AIR = 2;
    private static final int RUN = 3;
    private static final int COMMIT = 4;

    private final Code code;
    private final Store store;
    private final Attempt attempt;
    private final Radio radio;
    private final int[] readings;
    private final int[] estimates;
    private final int[] failures;

    private int phase;
    private int energy;
    private int slotNumber;
    private int stepsToCut;
    private int givenUp;
    private int powerFailures;
    private int abandoned;
    private int replayed;
    private int commitStep;
    private boolean noteIsDue;

    public ThriftNode() {
        code = new Code();
        store = new Store();
        readings = new int[SENSORS];
        attempt = new Attempt(store, readings);
        radio = new Radio();
        estimates = new int[TASKS];
        failures = new int[TASKS];
        phase = OFF;
        givenUp = NONE;
    }

    public boolean program(int task, int i, int word) {
        return code.put(task, i, word);
    }

    public int seal() {
        return code.close();
    }

    public int slot(int harvest) throws IllegalStateException, IllegalArgumentException {
        if (!code.sealed) {
            throw new IllegalStateException("the program is not sealed");
        }
        if (harvest < 0 || harvest > MOST_HARVEST) {
            throw new IllegalArgumentException("the harvest is not 0 .. 500");
        }
        energy = Math.min(MOST_ENERGY, energy + harvest);
        slotNumber++;
        if (phase == OFF && !boot()) {
            return NONE;
        }
        return stepsOfThisSlot();
    }

    public boolean cut(int n) {
        if (n < 0 || n > LATEST_CUT) {
            return false;
        }
        stepsToCut = n;
        return true;
    }

    public boolean sense(int k, int v) {
        if (k < 0 || k >= SENSORS) {
            return false;
        }
        readings[k] = v;
        return true;
    }

    public int kept(int at, boolean wear) throws IndexOutOfBoundsException {
        if (!store.has(at)) {
            throw new IndexOutOfBoundsException("there is no such kept word");
        }
        return wear ? store.wearAt(at) : store.wordAt(at);
    }

    public int aired(int k, int what) {
        return radio.latest(k, what);
    }

    public int heard(int number) throws IndexOutOfBoundsException {
        if (!radio.keeps(number)) {
            throw new IndexOutOfBoundsException("the far side has no such frame");
        }
        return radio.payloadKept(number);
    }

    public int state(int what) {
        switch (what) {
            case 0:
                return phase;
            case 1:
                return energy;
            case 2:
                return slotNumber;
            case 3:
                return inAttempt() ? attempt.spent : 0;
            case 4:
                return inAttempt() ? attempt.pending.count : 0;
            case 5:
                return phase == RUN ? attempt.next : 0;
            case 6:
                return givenUp;
            case 7:
                return powerFailures;
            case 8:
                return abandoned;
            case 9:
                return radio.frames;
            default:
                return NONE;
        }
    }

    public int task(int t, int what) {
        if (t < 0 || t >= TASKS) {
            return NONE;
        }
        switch (what) {
            case 0:
                return estimates[t];
            case 1:
                return failures[t];
            case 2:
                return code.lengthOf(t);
            default:
                return NONE;
        }
    }

    public int register(int k) {
        if (!inAttempt() || k < 0 || k >= REGISTERS) {
            return 0;
        }
        return attempt.registers[k];
    }

    private boolean inAttempt() {
        return phase == RUN || phase == COMMIT;
    }

    /** The task in TASK; only tasks that the seal has found come there, the mask keeps indexes safe. */
    private int currentTask() {
        return store.wordAt(Store.TASK) & (TASKS - 1);
    }

    private boolean boot() {
        int needed = Math.min(MOST_ENERGY, estimates[currentTask()] + BOOT_COST);
        if (givenUp != NONE || energy < needed) {
            return false;
        }
        energy -= BOOT_COST;
        replayed = 0;
        noteIsDue = false;
        phase = store.wordAt(Store.MARK) != 0 ? REPLAY : AIR;
        return true;
    }

    private int stepsOfThisSlot() {
        int done = 0;
        while (done < STEPS_IN_A_SLOT && phase != OFF) {
            if (!step()) {
                break;
            }
            done++;
        }
        return done;
    }

    /** True if the step was done, false if the power failed in its place. */
    private boolean step() {
        // An attempt begins without a step of its own, so a first instruction that can't be paid
        // is already a failure of its task.
        if (phase == AIR && !store.hasUnsent()) {
            attempt.begin(currentTask());
            phase = RUN;
        }
        int cost = costOfStep();
        if (cost > energy) {
            failPower();
            return false;
        }
        energy -= cost;
        if (inAttempt()) {
            attempt.spent += cost;
        }
        doStep();
        countTowardsCut();
        return true;
    }

    private int costOfStep() {
        if (phase == RUN) {
            return Code.costOf(instruction());
        }
        return phase == AIR && !noteIsDue ? AIR_COST : WRITE_COST;
    }

    private int instruction() {
        return code.wordAt(attempt.task, attempt.next);
    }

    private void doStep() {
        switch (phase) {
            case REPLAY:
                replayStep();
                break;
            case AIR:
                airStep();
                break;
            case RUN:
                runStep();
                break;
            default:
                doCommitStep();
                break;
        }
    }

    private void countTowardsCut() {
        if (stepsToCut == 0) {
            return;
        }
        stepsToCut--;
        if (stepsToCut == 0) {
            failPower();
        }
    }

    private void replayStep() {
        if (replayed < store.wordAt(Store.MARK)) {
            store.applyEntry(replayed);
            replayed++;
        } else {
            store.write(Store.MARK, 0);
            phase = AIR;
        }
    }

    private void airStep() {
        int sent = store.wordAt(Store.SENT);
        if (noteIsDue) {
            store.write(Store.SENT, sent + 1);
        } else {
            radio.putOnAir(sent, store.wordAt(Store.payloadOf(sent)));
        }
        noteIsDue = !noteIsDue;
    }

    private void runStep() {
        int outcome = attempt.run(instruction(), slotNumber);
        if (outcome == Attempt.ENDS) {
            attempt.pending.close(attempt.taskBehind, store.wordAt(Store.COMMITS) + 1);
            commitStep = 0;
            phase = COMMIT;
        } else if (outcome == Attempt.IS_ABANDONED) {
            abandoned++;
            phase = AIR;
        }
    }

    private void doCommitStep() {
        Pending list = attempt.pending;
        int entries = list.entries();
        int applied = commitStep - 2 * entries - 1;
        if (applied < -1) {
            store.write(Store.LIST + commitStep, list.listWord(commitStep));
        } else if (applied == -1) {
            store.write(Store.MARK, entries);
        } else if (applied < entries) {
            store.applyEntry(applied);
        } else {
            store.write(Store.MARK, 0);
            finishAttempt();
        }
        commitStep++;
    }

    private void finishAttempt() {
        int t = attempt.task;
        estimates[t] = Math.max(estimates[t], attempt.spent);
        failures[t] = 0;
        phase = AIR;
    }

    private void failPower() {
        // Behind a written MARK the attempt's work is safe: the replay brings it to its end.
        if (phase == RUN || phase == COMMIT && store.wordAt(Store.MARK) == 0) {
            countFailureOf(attempt.task);
        }
        powerFailures++;
        phase = OFF;
    }

    private void countFailureOf(int t) {
        failures[t]++;
        int doubled = 2 * Math.max(estimates[t], attempt.spent);
        estimates[t] = Math.min(MOST_ESTIMATE_OF_A_FAILURE, doubled);
        if (failures[t] >= FAILURES_TO_GIVE_UP) {
            givenUp = t;
        }
    }

    /** The instructions of all tasks, and what the seal asks of them. */
    private static final class Code {
        static final int MOST_INSTRUCTIONS = 32;

        static final int END = 0;
        static final int SET = 1;
        static final int ADD = 2;
        static final int SUB = 3;
        static final int MUL = 4;
        static final int XOR = 5;
        static final int ZERO = 6;
        static final int GO = 7;
        static final int GET = 8;
        static final int PUT = 9;
        static final int LOAD = 10;
        static final int STORE = 11;
        static final int PUSH = 12;
        static final int POP = 13;
        static final int SENSE = 14;
        static final int SEND = 15;
        static final int BIND = 16;
        static final int BOUND = 17;

        // One column for each OP, 0 .. 17. A greatest operand of 255 is one that needs no look, or
        // one that is looked at apart (the task behind END, the instruction behind ZERO and GO).
        private static final int[] COSTS =
            {1, 1, 1, 1, 4, 1, 1, 1, 2, 2, 2, 2, 3, 3, 10, 3, 1, 1};
        private static final int[] MOST_A =
            {255, 7, 7, 7, 7, 7, 7, 255, 7, 7, 7, 7, 7, 7, 7, 7, 255, 255};
        private static final int[] MOST_B =
            {255, 255, 7, 7, 7, 7, 255, 255, 15, 15, 3, 3, 1, 1, 3, 255, 255, 255};
        private static final int[] MOST_C =
            {255, 255, 7, 7, 7, 7, 255, 255, 255, 255, 7, 7, 255, 255, 255, 255, 255, 255};

        final int[] words;
        final int[] lengths;
        boolean sealed;

        Code() {
            words = new int[TASKS * MOST_INSTRUCTIONS];
            lengths = new int[TASKS];
        }

        static int op(int word) {
            return word >>> 24;
        }

        static int a(int word) {
            return word >>> 16 & 255;
        }

        static int b(int word) {
            return word >>> 8 & 255;
        }

        static int c(int word) {
            return word & 255;
        }

        static int costOf(int word) {
            int op = op(word);
            return op > BOUND ? 0 : COSTS[op];
        }

        boolean put(int t, int i, int word) {
            if (sealed || t < 0 || t >= TASKS || i < 0 || i >= MOST_INSTRUCTIONS || i > lengths[t]) {
                return false;
            }
            words[t * MOST_INSTRUCTIONS + i] = word;
            if (i == lengths[t]) {
                lengths[t]++;
            }
            return true;
        }

        int lengthOf(int t) {
            return t < 0 || t >= TASKS ? 0 : lengths[t];
        }

        int wordAt(int t, int i) {
            return i < 0 || i >= lengthOf(t) ? 0 : words[t * MOST_INSTRUCTIONS + i];
        }

        /** Seals if there is no fault: 0; else 1 more than the place of the first fault. */
        int close() {
            if (sealed) {
                return 0;
            }
            int fault = firstFault();
            sealed = fault == NONE;
            return fault + 1;
        }

        private int firstFault() {
            if (lengths[0] == 0) {
                return 0;
            }
            for (int t = 0; t < TASKS; t++) {
                for (int i = 0; i < lengths[t]; i++) {
                    int place = t * MOST_INSTRUCTIONS + i;
                    if (isFaulty(words[place], lengths[t], i == lengths[t] - 1)) {
                        return place;
                    }
                }
            }
            return NONE;
        }

        private boolean isFaulty(int word, int length, boolean last) {
            int op = op(word);
            if (op > BOUND) {
                return true;
            }
            if (a(word) > MOST_A[op] || b(word) > MOST_B[op] || c(word) > MOST_C[op]) {
                return true;
            }
            if (op == END) {
                return lengthOf(a(word)) == 0;
            }
            if ((op == GO || op == ZERO) && b(word) >= length) {
                return true;
            }
            return last && op != GO;
        }
    }

    /** The kept words and their wear. */
    private static final class Store {
        static final int SIZE = 164;
        static final int TASK = 0;
        static final int COMMITS = 1;
        static final int MARK = 2;
        static final int NUMBER = 3;
        static final int SENT = 4;
        static final int CELLS = 8;
        static final int ROWS = 24;
        static final int QUEUES = 56;
        static final int PAYLOADS = 68;
        static final int LIST = 84;
        static final int MOST_UNSENT = 16;

        final int[] words;
        final int[] wears;

        Store() {
            words = new int[SIZE];
            wears = new int[SIZE];
        }

        static int payloadOf(int frame) {
            return PAYLOADS + (frame & (MOST_UNSENT - 1));
        }

        boolean has(int at) {
            return at >= 0 && at < SIZE;
        }

        int wordAt(int at) {
            return has(at) ? words[at] : 0;
        }

        int wearAt(int at) {
            return has(at) ? wears[at] : 0;
        }

        void write(int at, int what) {
            if (has(at)) {
                words[at] = what;
                wears[at]++;
            }
        }

        boolean hasUnsent() {
            return words[SENT] < words[NUMBER];
        }

        void applyEntry(int entry) {
            int at = LIST + 2 * entry;
            write(wordAt(at), wordAt(at + 1));
        }
    }

    /** What an attempt has written, in the order of the first writes; kept words stay below it. */
    private static final class Pending {
        static final int MOST = 38;

        final Store store;
        final int[] places;
        final int[] values;
        int count;

        Pending(Store store) {
            this.store = store;
            places = new int[MOST + 2];
            values = new int[MOST + 2];
        }

        void clear() {
            count = 0;
        }

        int read(int at) {
            int entry = find(at);
            return entry < count ? values[entry] : store.wordAt(at);
        }

        boolean hasRoomFor(int at) {
            return find(at) < count || count < MOST;
        }

        boolean hasRoomFor(int at, int other) {
            int fresh = (find(at) < count ? 0 : 1) + (find(other) < count ? 0 : 1);
            return count + fresh <= MOST;
        }

        /** The caller has asked for the room. */
        void write(int at, int what) {
            int entry = find(at);
            if (entry >= MOST) {
                return;
            }
            places[entry] = at;
            values[entry] = what;
            if (entry == count) {
                count++;
            }
        }

        /** Where the word stands among the entries; count if it is not there. */
        private int find(int at) {
            int entry = 0;
            while (entry < count && places[entry] != at) {
                entry++;
            }
            return entry;
        }

        /** The two entries of every commit come behind the pending words, and do not count as such. */
        void close(int nextTask, int commits) {
            places[count] = Store.TASK;
            values[count] = nextTask;
            places[count + 1] = Store.COMMITS;
            values[count + 1] = commits;
        }

        int entries() {
            return count + 2;
        }

        /** Word k of the LIST that the entries make. */
        int listWord(int k) {
            int entry = k / 2;
            if (k < 0 || entry >= entries()) {
                return 0;
            }
            return k % 2 == 0 ? places[entry] : values[entry];
        }
    }

    /** One try at a task. Operands are used as they are: the seal has looked at each of them. */
    private static final class Attempt {
        static final int GOES_ON = 0;
        static final int ENDS = 1;
        static final int IS_ABANDONED = 2;

        private static final int FLAG = 7;
        private static final int WORDS_IN_A_ROW = 8;
        private static final int WORDS_IN_A_QUEUE = 6;
        private static final int PLACES_IN_A_QUEUE = 4;

        final Pending pending;
        final Store store;
        final int[] readings;
        final int[] registers;
        int task;
        int next;
        int spent;
        int taskBehind;
        int boundSlot;
        boolean isBound;

        Attempt(Store store, int[] readings) {
            this.store = store;
            this.readings = readings;
            pending = new Pending(store);
            registers = new int[REGISTERS];
        }

        void begin(int t) {
            task = t;
            next = 0;
            spent = 0;
            isBound = false;
            pending.clear();
            for (int k = 0; k < REGISTERS; k++) {
                registers[k] = 0;
            }
        }

        int run(int word, int slotNumber) {
            int a = Code.a(word);
            next++;
            switch (Code.op(word)) {
                case Code.END:
                    taskBehind = a;
                    return ENDS;
                case Code.ZERO:
                    if (registers[a] == 0) {
                        next = Code.b(word);
                    }
                    return GOES_ON;
                case Code.GO:
                    next = Code.b(word);
                    return GOES_ON;
                case Code.BIND:
                    isBound = true;
                    boundSlot = slotNumber;
                    return GOES_ON;
                case Code.BOUND:
                    return isBound && slotNumber - boundSlot > a ? IS_ABANDONED : GOES_ON;
                case Code.SET:
                    registers[a] = (short) word;
                    return GOES_ON;
                default:
                    work(word, a, Code.b(word), Code.c(word));
                    return GOES_ON;
            }
        }

        private void work(int word, int a, int b, int c) {
            switch (Code.op(word)) {
                case Code.ADD:
                    registers[a] = registers[b] + registers[c];
                    break;
                case Code.SUB:
                    registers[a] = registers[b] - registers[c];
                    break;
                case Code.MUL:
                    registers[a] = registers[b] * registers[c];
                    break;
                case Code.XOR:
                    registers[a] = registers[b] ^ registers[c];
                    break;
                case Code.GET:
                    registers[a] = pending.read(Store.CELLS + b);
                    break;
                case Code.PUT:
                    writeIfRoom(Store.CELLS + b, registers[a]);
                    break;
                case Code.LOAD:
                    registers[a] = pending.read(rowWord(b, c));
                    break;
                case Code.STORE:
                    writeIfRoom(rowWord(b, c), registers[a]);
                    break;
                case Code.PUSH:
                    push(registers[a], Store.QUEUES + b * WORDS_IN_A_QUEUE);
                    break;
                case Code.POP:
                    pop(a, Store.QUEUES + b * WORDS_IN_A_QUEUE);
                    break;
                case Code.SENSE:
                    registers[a] = readings[b];
                    break;
                case Code.SEND:
                    send(registers[a]);
                    break;
                default:
                    break;
            }
        }

        private int rowWord(int row, int c) {
            return Store.ROWS + row * WORDS_IN_A_ROW + (registers[c] & (WORDS_IN_A_ROW - 1));
        }

        private void writeIfRoom(int at, int what) {
            if (pending.hasRoomFor(at)) {
                pending.write(at, what);
            }
        }

        /** Both words or none: whether they were written is told by register 7. */
        private boolean writeBothIfRoom(int at, int what, int countAt, int count) {
            boolean room = pending.hasRoomFor(at, countAt);
            if (room) {
                pending.write(at, what);
                pending.write(countAt, count);
            }
            registers[FLAG] = room ? 1 : 0;
            return room;
        }

        private int placeInQueue(int queue, int k) {
            return queue + 2 + (k & (PLACES_IN_A_QUEUE - 1));
        }

        private void push(int what, int queue) {
            int first = pending.read(queue);
            int many = pending.read(queue + 1);
            if (many >= PLACES_IN_A_QUEUE) {
                registers[FLAG] = 0;
            } else {
                writeBothIfRoom(placeInQueue(queue, first + many), what, queue + 1, many + 1);
            }
        }

        private void pop(int a, int queue) {
            int first = pending.read(queue);
            int many = pending.read(queue + 1);
            if (many <= 0) {
                registers[a] = 0;
                registers[FLAG] = 0;
                return;
            }
            int what = pending.read(placeInQueue(queue, first));
            int behind = first + 1 & PLACES_IN_A_QUEUE - 1;
            if (writeBothIfRoom(queue, behind, queue + 1, many - 1) && a != FLAG) {
                registers[a] = what;
            }
        }

        private void send(int payload) {
            int number = pending.read(Store.NUMBER);
            if (number - store.wordAt(Store.SENT) >= Store.MOST_UNSENT) {
                registers[FLAG] = 0;
            } else {
                writeBothIfRoom(Store.payloadOf(number), payload, Store.NUMBER, number + 1);
            }
        }
    }

    /** The frames on the air, and what the far side has heard of them. */
    private static final class Radio {
        static final int LATEST = 64;

        final int[] numbers;
        final int[] payloads;
        final int[] kept;
        int frames;
        int numbersHeard;

        Radio() {
            numbers = new int[LATEST];
            payloads = new int[LATEST];
            kept = new int[LATEST];
        }

        void putOnAir(int number, int payload) {
            int at = frames & (LATEST - 1);
            numbers[at] = number;
            payloads[at] = payload;
            frames++;
            // Numbers come to the air in their order, so a lower one is a repeat.
            if (number == numbersHeard) {
                kept[number & (LATEST - 1)] = payload;
                numbersHeard++;
            }
        }

        int latest(int k, int what) {
            if (k < 0 || k >= LATEST || k >= frames || what < 0 || what > 1) {
                return NONE;
            }
            int at = frames - 1 - k & LATEST - 1;
            return what == 0 ? numbers[at] : payloads[at];
        }

        boolean keeps(int number) {
            return number >= 0 && number < numbersHeard && number >= numbersHeard - LATEST;
        }

        int payloadKept(int number) {
            return kept[number & (LATEST - 1)];
        }
    }
}
