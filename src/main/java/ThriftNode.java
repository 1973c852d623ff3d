/**
 * A node that lives on what it harvests: tasks run between power failures, keep what they have done
 * by lists that are marked and then applied, put frames on the air until that is noted, and wait
 * until a task is likely to come through.
 */
public final class ThriftNode {
    public static final int NONE = -1;

    private static final int TASKS = 16;
    private static final int REGISTERS = 8;
    private static final int SENSORS = 4;

    private static final int MOST_ENERGY = 2000;
    private static final int MOST_HARVEST = 500;
    private static final int BOOT_COST = 60;
    private static final int WRITE_COST = 4;
    private static final int AIR_COST = 20;
    private static final int STEPS_IN_A_SLOT = 16;
    private static final int MOST_ESTIMATE_OF_A_FAILURE = 1940;
    private static final int FAILURES_TO_GIVE_UP = 12;
    private static final int LATEST_CUT = 10000;

    private static final int OFF = 0;
    private static final int REPLAY = 1;
    private static final int AIR = 2;
    private static final int RUN = 3;
    private static final int COMMIT = 4;

    private final Code code;
    private final Store store;
    private final Attempt attempt;
    private final Radio radio;
    private final int[] readings;
    private final int[] estimates;
    private final int[] failures;

    private int phase;
    private int energy;
    private int slotNumber;
    private int stepsToCut;
    private int givenUp;
    private int powerFailures;
    private int abandoned;
    private int replayed;
    private int commitSteps;
    private boolean noteIsDue;

    public ThriftNode() {
        code = new Code();
        store = new Store();
        readings = new int[SENSORS];
        attempt = new Attempt(store, readings);
        radio = new Radio();
        estimates = new int[TASKS];
        failures = new int[TASKS];
        phase = OFF;
        givenUp = NONE;
    }

    public boolean program(int task, int i, int word) {
        return code.put(task, i, word);
    }

    public int seal() {
        return code.close();
    }

    public int slot(int harvest) throws IllegalStateException, IllegalArgumentException {
        if (!code.isClosed) {
            throw new IllegalStateException("the program is not sealed");
        }
        if (harvest < 0 || harvest > MOST_HARVEST) {
            throw new IllegalArgumentException("the harvest is not 0 .. 500");
        }
        energy = Math.min(MOST_ENERGY, energy + harvest);
        slotNumber++;
        if (phase == OFF && !boot()) {
            return NONE;
        }
        int done = 0;
        for (int k = 0; k < STEPS_IN_A_SLOT && phase != OFF; k++) {
            if (step()) {
                done++;
            }
        }
        return done;
    }

    public boolean cut(int n) {
        if (n < 0 || n > LATEST_CUT) {
            return false;
        }
        stepsToCut = n;
        return true;
    }

    public boolean sense(int k, int v) {
        if (k < 0 || k >= SENSORS) {
            return false;
        }
        readings[k] = v;
        return true;
    }

    public int kept(int at, boolean wear) throws IndexOutOfBoundsException {
        if (at < 0 || at >= Store.SIZE) {
            throw new IndexOutOfBoundsException("there is no such kept word");
        }
        return wear ? store.wears[at] : store.words[at];
    }

    public int aired(int k, int what) {
        return radio.latest(k, what);
    }

    public int heard(int number) throws IndexOutOfBoundsException {
        if (!radio.farSideHas(number)) {
            throw new IndexOutOfBoundsException("the far side has no such frame");
        }
        return radio.payloadOfFarSide(number);
    }

    public int state(int what) {
        switch (what) {
            case 0:
                return phase;
            case 1:
                return energy;
            case 2:
                return slotNumber;
            case 3:
                return isInAttempt() ? attempt.spent : 0;
            case 4:
                return isInAttempt() ? attempt.pending.count : 0;
            case 5:
                return phase == RUN ? attempt.next : 0;
            case 6:
                return givenUp;
            case 7:
                return powerFailures;
            case 8:
                return abandoned;
            case 9:
                return radio.frames;
            default:
                return NONE;
        }
    }

    public int task(int t, int what) {
        if (t < 0 || t >= TASKS) {
            return NONE;
        }
        switch (what) {
            case 0:
                return estimates[t];
            case 1:
                return failures[t];
            case 2:
                return code.lengths[t];
            default:
                return NONE;
        }
    }

    public int register(int k) {
        if (!isInAttempt() || k < 0 || k >= REGISTERS) {
            return 0;
        }
        return attempt.registers[k];
    }

    private boolean isInAttempt() {
        return phase == RUN || phase == COMMIT;
    }

    /** Only tasks that the seal has found come to TASK; the mask keeps the index safe all the same. */
    private int currentTask() {
        return store.words[Store.TASK] & (TASKS - 1);
    }

    /** True if there was enough energy for it. */
    private boolean boot() {
        int needed = Math.min(MOST_ENERGY, estimates[currentTask()] + BOOT_COST);
        if (givenUp != NONE || energy < needed) {
            return false;
        }
        energy -= BOOT_COST;
        replayed = 0;
        noteIsDue = false;
        phase = store.words[Store.MARK] != 0 ? REPLAY : AIR;
        return true;
    }

    /** True if the step was done, false if the power failed in its place. */
    private boolean step() {
        // An attempt begins without a step of its own, so a first instruction that can't be paid is
        // a failure of its task already.
        if (phase == AIR && !store.hasFramesToAir()) {
            attempt.begin(currentTask());
            phase = RUN;
        }
        int cost = costOfStep();
        if (cost > energy) {
            failPower();
            return false;
        }
        pay(cost);
        switch (phase) {
            case REPLAY:
                doReplayStep();
                break;
            case AIR:
                doAirStep();
                break;
            case RUN:
                doInstruction(nextInstruction());
                break;
            default:
                doCommitStep();
                break;
        }
        countTowardsCut();
        return true;
    }

    private void pay(int cost) {
        energy -= cost;
        if (isInAttempt()) {
            attempt.spent += cost;
        }
    }

    private int costOfStep() {
        if (phase == RUN) {
            return Code.costOf(nextInstruction());
        }
        return phase == AIR && !noteIsDue ? AIR_COST : WRITE_COST;
    }

    private int nextInstruction() {
        return code.wordAt(attempt.task, attempt.next);
    }

    private void countTowardsCut() {
        if (stepsToCut == 0) {
            return;
        }
        stepsToCut--;
        if (stepsToCut == 0) {
            failPower();
        }
    }

    private void doReplayStep() {
        if (replayed < store.words[Store.MARK]) {
            store.applyEntry(replayed);
            replayed++;
        } else {
            store.write(Store.MARK, 0);
            phase = AIR;
        }
    }

    private void doAirStep() {
        int sent = store.words[Store.SENT];
        if (noteIsDue) {
            store.write(Store.SENT, sent + 1);
        } else {
            radio.putOnAir(sent, store.words[Store.payloadOf(sent)]);
        }
        noteIsDue = !noteIsDue;
    }

    private void doInstruction(int word) {
        int a = Code.a(word);
        attempt.next++;
        switch (Code.op(word)) {
            case Code.END:
                attempt.pending.close(a, store.words[Store.COMMITS] + 1);
                commitSteps = 0;
                phase = COMMIT;
                break;
            case Code.BIND:
                attempt.bind(slotNumber);
                break;
            case Code.BOUND:
                if (attempt.isTooLate(slotNumber, a)) {
                    abandoned++;
                    phase = AIR;
                }
                break;
            default:
                attempt.work(word);
                break;
        }
    }

    private void doCommitStep() {
        int entries = attempt.pending.entries();
        int listWords = 2 * entries;
        int behindMark = commitSteps - listWords - 1;
        if (commitSteps < listWords) {
            store.write(Store.LIST + commitSteps, attempt.pending.listWord(commitSteps));
        } else if (commitSteps == listWords) {
            store.write(Store.MARK, entries);
        } else if (behindMark < entries) {
            store.applyEntry(behindMark);
        } else {
            store.write(Store.MARK, 0);
            finishAttempt();
        }
        commitSteps++;
    }

    /** TASK is the next one by now: what was spent belongs to the task that the attempt began with. */
    private void finishAttempt() {
        int t = attempt.task;
        estimates[t] = Math.max(estimates[t], attempt.spent);
        failures[t] = 0;
        phase = AIR;
    }

    private void failPower() {
        // Behind a written MARK the attempt's work is safe: the replay brings it to its end.
        if (phase == RUN || phase == COMMIT && store.words[Store.MARK] == 0) {
            countFailure();
        }
        powerFailures++;
        phase = OFF;
    }

    private void countFailure() {
        int t = attempt.task;
        failures[t]++;
        int doubled = 2 * Math.max(estimates[t], attempt.spent);
        estimates[t] = Math.min(MOST_ESTIMATE_OF_A_FAILURE, doubled);
        if (failures[t] >= FAILURES_TO_GIVE_UP) {
            givenUp = t;
        }
    }

    /** The instructions of all tasks, and what the seal asks of them. */
    private static final class Code {
        static final int END = 0;
        static final int SET = 1;
        static final int ADD = 2;
        static final int SUB = 3;
        static final int MUL = 4;
        static final int XOR = 5;
        static final int ZERO = 6;
        static final int GO = 7;
        static final int GET = 8;
        static final int PUT = 9;
        static final int LOAD = 10;
        static final int STORE = 11;
        static final int PUSH = 12;
        static final int POP = 13;
        static final int SENSE = 14;
        static final int SEND = 15;
        static final int BIND = 16;
        static final int BOUND = 17;

        private static final int MOST_INSTRUCTIONS = 32;

        // One column for each OP. A greatest operand of 255 is one that needs no look, or one that
        // is looked at apart: the task behind END, the instruction behind ZERO and GO.
        private static final int[] COSTS =
            {1, 1, 1, 1, 4, 1, 1, 1, 2, 2, 2, 2, 3, 3, 10, 3, 1, 1};
        private static final int[] MOST_A =
            {255, 7, 7, 7, 7, 7, 7, 255, 7, 7, 7, 7, 7, 7, 7, 7, 255, 255};
        private static final int[] MOST_B =
            {255, 255, 7, 7, 7, 7, 255, 255, 15, 15, 3, 3, 1, 1, 3, 255, 255, 255};
        private static final int[] MOST_C =
            {255, 255, 7, 7, 7, 7, 255, 255, 255, 255, 7, 7, 255, 255, 255, 255, 255, 255};

        final int[] words;
        final int[] lengths;
        boolean isClosed;

        Code() {
            words = new int[TASKS * MOST_INSTRUCTIONS];
            lengths = new int[TASKS];
        }

        static int op(int word) {
            return word >>> 24;
        }

        static int a(int word) {
            return word >>> 16 & 255;
        }

        static int b(int word) {
            return word >>> 8 & 255;
        }

        static int c(int word) {
            return word & 255;
        }

        static int costOf(int word) {
            int op = op(word);
            return op > BOUND ? 0 : COSTS[op];
        }

        boolean put(int t, int i, int word) {
            if (isClosed || t < 0 || t >= TASKS) {
                return false;
            }
            if (i < 0 || i >= MOST_INSTRUCTIONS || i > lengths[t]) {
                return false;
            }
            words[t * MOST_INSTRUCTIONS + i] = word;
            lengths[t] = Math.max(lengths[t], i + 1);
            return true;
        }

        int lengthOf(int t) {
            return t < 0 || t >= TASKS ? 0 : lengths[t];
        }

        int wordAt(int t, int i) {
            return i < 0 || i >= lengthOf(t) ? 0 : words[t * MOST_INSTRUCTIONS + i];
        }

        /** Closes if there is no fault: 0; else 1 more than the place of the first fault. */
        int close() {
            if (isClosed) {
                return 0;
            }
            int fault = firstFault();
            isClosed = fault == NONE;
            return fault + 1;
        }

        private int firstFault() {
            if (lengths[0] == 0) {
                return 0;
            }
            for (int t = 0; t < TASKS; t++) {
                for (int i = 0; i < lengths[t]; i++) {
                    int place = t * MOST_INSTRUCTIONS + i;
                    if (isFault(words[place], i, lengths[t])) {
                        return place;
                    }
                }
            }
            return NONE;
        }

        private boolean isFault(int word, int i, int length) {
            int op = op(word);
            if (op > BOUND) {
                return true;
            }
            if (a(word) > MOST_A[op] || b(word) > MOST_B[op] || c(word) > MOST_C[op]) {
                return true;
            }
            if (op == END) {
                return lengthOf(a(word)) == 0;
            }
            if ((op == ZERO || op == GO) && b(word) >= length) {
                return true;
            }
            return i == length - 1 && op != GO;
        }
    }

    /** The kept words and their wear. */
    private static final class Store {
        static final int SIZE = 164;
        static final int TASK = 0;
        static final int COMMITS = 1;
        static final int MARK = 2;
        static final int NUMBER = 3;
        static final int SENT = 4;
        static final int CELLS = 8;
        static final int ROWS = 24;
        static final int QUEUES = 56;
        static final int PAYLOADS = 68;
        static final int LIST = 84;
        static final int MOST_FRAMES_TO_AIR = 16;

        final int[] words;
        final int[] wears;

        Store() {
            words = new int[SIZE];
            wears = new int[SIZE];
        }

        static int payloadOf(int frame) {
            return PAYLOADS + (frame & (MOST_FRAMES_TO_AIR - 1));
        }

        boolean hasFramesToAir() {
            return words[SENT] < words[NUMBER];
        }

        void write(int at, int what) {
            if (at >= 0 && at < SIZE) {
                words[at] = what;
                wears[at]++;
            }
        }

        void applyEntry(int entry) {
            int at = LIST + 2 * entry;
            if (at >= LIST && at + 1 < SIZE) {
                write(words[at], words[at + 1]);
            }
        }
    }

    /** What an attempt has written, in the order of the first writes; the kept words stay below it. */
    private static final class Pending {
        static final int MOST = 38;

        final Store store;
        final int[] places;
        final int[] values;
        // For each kept word 1 more than the entry that stands over it, 0 if there is none.
        final int[] entryOver;
        int count;

        Pending(Store store) {
            this.store = store;
            places = new int[MOST + 2];
            values = new int[MOST + 2];
            entryOver = new int[Store.SIZE];
        }

        void clear() {
            for (int k = 0; k < count; k++) {
                entryOver[places[k]] = 0;
            }
            count = 0;
        }

        int read(int at) {
            int entry = entryOver[at] - 1;
            return entry >= 0 ? values[entry] : store.words[at];
        }

        boolean hasRoomFor(int at) {
            return entryOver[at] != 0 || count < MOST;
        }

        boolean hasRoomForBoth(int at, int other) {
            int fresh = (entryOver[at] == 0 ? 1 : 0) + (entryOver[other] == 0 ? 1 : 0);
            return count + fresh <= MOST;
        }

        /** Whoever writes has asked for the room. */
        void write(int at, int what) {
            if (entryOver[at] == 0) {
                places[count] = at;
                count++;
                entryOver[at] = count;
            }
            values[entryOver[at] - 1] = what;
        }

        /** Every commit has two entries behind the pending words, which do not count as such. */
        void close(int nextTask, int commits) {
            places[count] = Store.TASK;
            values[count] = nextTask;
            places[count + 1] = Store.COMMITS;
            values[count + 1] = commits;
        }

        int entries() {
            return count + 2;
        }

        int listWord(int k) {
            return k % 2 == 0 ? places[k / 2] : values[k / 2];
        }
    }

    /** One try at a task. It uses operands as they are, for the seal has looked at each of them. */
    private static final class Attempt {
        // PUSH, POP and SEND tell in this register whether they were done.
        private static final int DONE = 7;
        private static final int WORDS_IN_A_ROW = 8;
        private static final int WORDS_IN_A_QUEUE = 6;
        private static final int PLACES_IN_A_QUEUE = 4;

        final Store store;
        final Pending pending;
        final int[] readings;
        final int[] registers;
        int task;
        int next;
        int spent;
        int boundSlot;
        boolean isBound;

        Attempt(Store store, int[] readings) {
            this.store = store;
            this.readings = readings;
            pending = new Pending(store);
            registers = new int[REGISTERS];
        }

        void begin(int t) {
            task = t;
            next = 0;
            spent = 0;
            isBound = false;
            pending.clear();
            for (int k = 0; k < REGISTERS; k++) {
                registers[k] = 0;
            }
        }

        void bind(int slotNumber) {
            isBound = true;
            boundSlot = slotNumber;
        }

        boolean isTooLate(int slotNumber, int slots) {
            return isBound && slotNumber - boundSlot > slots;
        }

        /** The instructions that neither end the attempt nor look at the slot. */
        void work(int word) {
            int a = Code.a(word);
            int b = Code.b(word);
            int c = Code.c(word);
            switch (Code.op(word)) {
                case Code.SET:
                    registers[a] = (short) word;
                    break;
                case Code.ADD:
                    registers[a] = registers[b] + registers[c];
                    break;
                case Code.SUB:
                    registers[a] = registers[b] - registers[c];
                    break;
                case Code.MUL:
                    registers[a] = registers[b] * registers[c];
                    break;
                case Code.XOR:
                    registers[a] = registers[b] ^ registers[c];
                    break;
                case Code.ZERO:
                    next = registers[a] == 0 ? b : next;
                    break;
                case Code.GO:
                    next = b;
                    break;
                case Code.SENSE:
                    registers[a] = readings[b];
                    break;
                case Code.GET:
                    registers[a] = pending.read(Store.CELLS + b);
                    break;
                case Code.PUT:
                    writeIfRoom(Store.CELLS + b, registers[a]);
                    break;
                case Code.LOAD:
                    registers[a] = pending.read(wordOfRow(b, registers[c]));
                    break;
                case Code.STORE:
                    writeIfRoom(wordOfRow(b, registers[c]), registers[a]);
                    break;
                case Code.PUSH:
                    push(registers[a], Store.QUEUES + b * WORDS_IN_A_QUEUE);
                    break;
                case Code.POP:
                    pop(a, Store.QUEUES + b * WORDS_IN_A_QUEUE);
                    break;
                case Code.SEND:
                    send(registers[a]);
                    break;
                default:
                    break;
            }
        }

        private static int wordOfRow(int row, int k) {
            return Store.ROWS + row * WORDS_IN_A_ROW + (k & (WORDS_IN_A_ROW - 1));
        }

        private static int placeOfQueue(int queue, int k) {
            return queue + 2 + (k & (PLACES_IN_A_QUEUE - 1));
        }

        private void writeIfRoom(int at, int what) {
            if (pending.hasRoomFor(at)) {
                pending.write(at, what);
            }
        }

        /** Both words or none of them; true for both. */
        private boolean writeBothIfRoom(int at, int what, int other, int whatOther) {
            if (!pending.hasRoomForBoth(at, other)) {
                return false;
            }
            pending.write(at, what);
            pending.write(other, whatOther);
            return true;
        }

        private void push(int what, int queue) {
            int first = pending.read(queue);
            int many = pending.read(queue + 1);
            boolean done = many < PLACES_IN_A_QUEUE
                && writeBothIfRoom(placeOfQueue(queue, first + many), what, queue + 1, many + 1);
            registers[DONE] = done ? 1 : 0;
        }

        private void pop(int a, int queue) {
            int first = pending.read(queue);
            int many = pending.read(queue + 1);
            boolean done = many > 0
                && writeBothIfRoom(queue, (first + 1) & (PLACES_IN_A_QUEUE - 1), queue + 1, many - 1);
            if (done) {
                registers[a] = pending.read(placeOfQueue(queue, first));
            } else if (many == 0) {
                registers[a] = 0;
            }
            registers[DONE] = done ? 1 : 0;
        }

        private void send(int payload) {
            int number = pending.read(Store.NUMBER);
            boolean done = number - store.words[Store.SENT] < Store.MOST_FRAMES_TO_AIR
                && writeBothIfRoom(Store.payloadOf(number), payload, Store.NUMBER, number + 1);
            registers[DONE] = done ? 1 : 0;
        }
    }

    /** The frames on the air, and what the far side keeps of them. */
    private static final class Radio {
        private static final int LATEST = 64;

        final int[] numbers;
        final int[] payloads;
        final int[] payloadsOfFarSide;
        int frames;
        int numbersHeard;

        Radio() {
            numbers = new int[LATEST];
            payloads = new int[LATEST];
            payloadsOfFarSide = new int[LATEST];
        }

        void putOnAir(int number, int payload) {
            int at = frames & (LATEST - 1);
            numbers[at] = number;
            payloads[at] = payload;
            frames++;
            // Numbers come to the air in their order, so any but the next one is a repeat.
            if (number == numbersHeard) {
                payloadsOfFarSide[number & (LATEST - 1)] = payload;
                numbersHeard++;
            }
        }

        int latest(int k, int what) {
            if (k < 0 || k >= LATEST || k >= frames || what < 0 || what > 1) {
                return NONE;
            }
            int at = (frames - 1 - k) & (LATEST - 1);
            return what == 0 ? numbers[at] : payloads[at];
        }

        boolean farSideHas(int number) {
            return number >= 0 && number < numbersHeard && number >= numbersHeard - LATEST;
        }

        int payloadOfFarSide(int number) {
            return payloadsOfFarSide[number & (LATEST - 1)];
        }
    }
}
