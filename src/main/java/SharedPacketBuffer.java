/** A simulator of the packet memory of an output-queued switch. */
public final class SharedPacketBuffer {
    public static final int BAD_INDEX = -1;
    public static final int BAD_VALUE = -2;
    public static final int NO_ROOM = -3;
    public static final int IN_USE = -4;
    public static final int NONE = -5;
    public static final int LOST = -6;
    public static final int GUARANTEE_FULL = 1;
    public static final int POOL_EMPTY = 2;
    public static final int OVER_THRESHOLD = 3;
    public static final int NOT_LOSSLESS = 4;
    public static final int HEADROOM_FULL = 5;
    public static final int PUSH_OUT_OFF = 6;
    public static final int NO_VICTIM = 7;
    public static final int PUSHED_OUT = 8;
    public static final int FLUSHED = 9;

    private static final int MOST_PORTS = 6;
    private static final int PRIORITIES = 3;
    private static final int LEAST_CELLS = 16;
    private static final int MOST_CELLS = 128;
    private static final int MOST_SIZE = 12;
    private static final int MOST_RESERVE = 64;
    private static final int MOST_ALPHA = 64;
    private static final int MOST_CAPACITY = 32;
    private static final int MOST_REFILL = 8;
    private static final int MOST_RATE = 16;
    private static final int MOST_QUANTUM = 16;
    private static final int MOST_GRANT = 32;
    private static final int MOST_TICKS = 20;
    private static final int MOST_TRAFFIC_TICKS = 16;
    private static final int MOST_LOAD = 3;
    private static final int STAGES = 4;
    private static final int SLOTS = 2;
    private static final int TEXT_ROOM = 120;
    private static final int LAST_LETTER = 127;
    private static final int FAULT_BASE = -1000;

    private static final int NO_STAGE = 0;
    private static final int NOT_REFUSED = 0;
    private static final int NO_PORT = -1;
    private static final int NO_CELL = -1;
    private static final int NO_PACKET = -1;
    private static final int NO_FAULT = -1;
    private static final int END_OF_TEXT = -1;

    /** Above the ticks in which 128 cells can be sent, one cell a tick. */
    private static final int DRAIN_BOUND = 1000;
    /** Above 128 departures with 12 rounds of three turns ahead of each. */
    private static final int TURN_BOUND = 100000;

    private final Device device;
    /** Predictions are played here, so that the device itself is not changed. */
    private final Device trial;
    private final Device[] slots;
    private final boolean[] saved;
    private final Text text;

    public SharedPacketBuffer() {
        device = new Device();
        trial = new Device();
        slots = new Device[SLOTS];
        for (int slot = 0; slot < SLOTS; slot++) {
            slots[slot] = new Device();
        }
        saved = new boolean[SLOTS];
        text = new Text();
        device.startAnew(64, 4);
    }

    // ---- configuration

    public int reset(int cells, int ports) {
        if (isOutside(cells, LEAST_CELLS, MOST_CELLS) || isOutside(ports, 1, MOST_PORTS)) {
            return BAD_VALUE;
        }
        int before = device.memory.cells;
        device.startAnew(cells, ports);
        return before;
    }

    public int setReserve(int port, int cells) {
        Port p = device.portAt(port);
        if (p == null) {
            return BAD_INDEX;
        }
        if (isOutside(cells, 0, MOST_RESERVE)) {
            return BAD_VALUE;
        }
        int before = p.reserve;
        if (cells - before > device.sharedLeft()) {
            return NO_ROOM;
        }
        p.reserve = cells;
        p.shareBeyondGuarantee();
        return before;
    }

    public int setHeadroom(int port, int cells) {
        Port p = device.portAt(port);
        if (p == null) {
            return BAD_INDEX;
        }
        if (isOutside(cells, 0, MOST_RESERVE)) {
            return BAD_VALUE;
        }
        if (p.headroomInUse() > cells) {
            return IN_USE;
        }
        int before = p.headroom;
        if (cells - before > device.sharedLeft()) {
            return NO_ROOM;
        }
        p.headroom = cells;
        return before;
    }

    public int setAlpha(int port, int priority, int eighths) {
        Queue q = device.queueAt(port, priority);
        if (q == null) {
            return BAD_INDEX;
        }
        if (isOutside(eighths, 0, MOST_ALPHA)) {
            return BAD_VALUE;
        }
        int before = q.alpha;
        q.alpha = eighths;
        return before;
    }

    public int setBurst(int port, int priority, int capacity, int refill) {
        Queue q = device.queueAt(port, priority);
        if (q == null) {
            return BAD_INDEX;
        }
        if (isOutside(capacity, 0, MOST_CAPACITY) || isOutside(refill, 0, MOST_REFILL)) {
            return BAD_VALUE;
        }
        int before = q.tank;
        q.capacity = capacity;
        q.refill = refill;
        q.tank = capacity;
        return before;
    }

    public int setLossless(int port, int priority, boolean lossless) {
        Queue q = device.queueAt(port, priority);
        if (q == null) {
            return BAD_INDEX;
        }
        if (!lossless && q.inHeadroom > 0) {
            return IN_USE;
        }
        int before = asNumber(q.lossless);
        q.lossless = lossless;
        if (!lossless) {
            q.paused = false;
        }
        return before;
    }

    public int setScheduler(int port, boolean roundRobin, int rate) {
        Port p = device.portAt(port);
        if (p == null) {
            return BAD_INDEX;
        }
        if (isOutside(rate, 0, MOST_RATE)) {
            return BAD_VALUE;
        }
        int before = p.rate;
        p.roundRobin = roundRobin;
        p.rate = rate;
        return before;
    }

    public int setQuantum(int port, int priority, int cells) {
        Queue q = device.queueAt(port, priority);
        if (q == null) {
            return BAD_INDEX;
        }
        if (isOutside(cells, 1, MOST_QUANTUM)) {
            return BAD_VALUE;
        }
        int before = q.quantum;
        q.quantum = cells;
        return before;
    }

    public int setPushOut(boolean on) {
        int before = asNumber(device.pushOut);
        device.pushOut = on;
        return before;
    }

    public int grant(int port, int cells) {
        Port p = device.portAt(port);
        if (p == null) {
            return BAD_INDEX;
        }
        if (isOutside(cells, 1, MOST_GRANT)) {
            return BAD_VALUE;
        }
        return device.giveGrant(p, port, cells);
    }

    public int withdraw(int port) {
        Port p = device.portAt(port);
        if (p == null) {
            return BAD_INDEX;
        }
        if (p.grant == 0) {
            return NONE;
        }
        int before = p.grant;
        device.endGrant(p, port);
        return before;
    }

    // ---- packets and time

    public int arrive(int port, int priority, int size) {
        Port p = device.portAt(port);
        Queue q = device.queueAt(port, priority);
        if (p == null || q == null) {
            return BAD_INDEX;
        }
        if (isOutside(size, 1, MOST_SIZE)) {
            return BAD_VALUE;
        }
        return device.receive(p, q, size);
    }

    public int ticks(int n) {
        if (isOutside(n, 1, MOST_TICKS)) {
            return BAD_VALUE;
        }
        int sent = 0;
        for (int i = 0; i < n; i++) {
            sent += device.passTick();
        }
        return sent;
    }

    public int flush(int port) {
        Port p = device.portAt(port);
        if (p == null) {
            return BAD_INDEX;
        }
        return device.discardAll(p);
    }

    public int traffic(int seed, int n, int load) {
        if (seed < 0 || isOutside(n, 1, MOST_TRAFFIC_TICKS) || isOutside(load, 1, MOST_LOAD)) {
            return BAD_VALUE;
        }
        int ports = Math.max(1, device.portCount);
        long s = seed;
        int lost = 0;
        for (int tick = 0; tick < n; tick++) {
            for (int arrival = 0; arrival < load; arrival++) {
                s = (s * 1103515245L + 12345L) % 2147483648L;
                int d = (int) (s / 65536L);
                Port p = device.portAt(d % ports);
                Queue q = device.queueAt(d % ports, d / 8 % PRIORITIES);
                lost += lossOfArrivals(p, q, d / 32 % MOST_SIZE + 1, 1);
            }
            device.passTick();
        }
        return lost;
    }

    // ---- counters

    public int freeShared() {
        return device.sharedLeft();
    }

    public int sharedPool() {
        return device.poolSize();
    }

    public int freeGuarantee(int port) {
        Port p = device.portAt(port);
        return p == null ? BAD_INDEX : p.guaranteeLeft();
    }

    public int grantOf(int port) {
        Port p = device.portAt(port);
        return p == null ? BAD_INDEX : p.grant;
    }

    public int threshold(int port, int priority) {
        Queue q = device.queueAt(port, priority);
        return q == null ? BAD_INDEX : q.limitWith(device.sharedLeft());
    }

    public int guaranteedCells(int port, int priority) {
        Queue q = device.queueAt(port, priority);
        return q == null ? BAD_INDEX : q.guaranteed;
    }

    public int sharedCells(int port, int priority) {
        Queue q = device.queueAt(port, priority);
        return q == null ? BAD_INDEX : q.shared;
    }

    public int headroomCells(int port, int priority) {
        Queue q = device.queueAt(port, priority);
        return q == null ? BAD_INDEX : q.inHeadroom;
    }

    public int burstTank(int port, int priority) {
        Queue q = device.queueAt(port, priority);
        return q == null ? BAD_INDEX : q.tank;
    }

    public int isPaused(int port, int priority) {
        Queue q = device.queueAt(port, priority);
        return q == null ? BAD_INDEX : asNumber(q.paused);
    }

    public int pauses(int port, int priority) {
        Queue q = device.queueAt(port, priority);
        return q == null ? BAD_INDEX : q.pauses;
    }

    public int credit(int port) {
        Port p = device.portAt(port);
        return p == null ? BAD_INDEX : p.credit;
    }

    public int deficit(int port, int priority) {
        Queue q = device.queueAt(port, priority);
        return q == null ? BAD_INDEX : q.deficit;
    }

    public int losses(int port, int cause) {
        Port p = device.portAt(port);
        if (p == null) {
            return BAD_INDEX;
        }
        switch (cause) {
            case POOL_EMPTY:
            case OVER_THRESHOLD:
            case HEADROOM_FULL:
            case PUSHED_OUT:
            case FLUSHED:
                return p.losses[cause];
            default:
                return BAD_VALUE;
        }
    }

    public int lostCells(int port) {
        Port p = device.portAt(port);
        return p == null ? BAD_INDEX : p.lostCells;
    }

    public int lossCause(int level) {
        if (isOutside(level, 0, STAGES - 1)) {
            return BAD_INDEX;
        }
        return device.hasRefused ? device.lastRefusals[STAGES - 1 - level] : NONE;
    }

    public int departed(int port) {
        Port p = device.portAt(port);
        return p == null ? BAD_INDEX : p.departed;
    }

    public int admitted() {
        return device.admitted;
    }

    public int time() {
        return device.time;
    }

    // ---- queues and memory

    public int queueLength(int port, int priority) {
        Queue q = device.queueAt(port, priority);
        return q == null ? BAD_INDEX : q.length;
    }

    public int packetAt(int port, int priority, int index) {
        Queue q = device.queueAt(port, priority);
        if (q == null || isOutside(index, 0, q.length - 1)) {
            return BAD_INDEX;
        }
        int packet = q.first;
        for (int i = 0; i < index; i++) {
            packet = device.memory.packetBehind(packet);
        }
        return device.memory.numberOf(packet);
    }

    public int fragments(int packet) {
        int place = device.memory.find(packet);
        return place == NO_CELL ? BAD_INDEX : device.memory.partsOf(place);
    }

    public int fragmentStart(int packet, int fragment) {
        int start = device.memory.partStart(device.memory.find(packet), fragment);
        return start == NO_CELL ? BAD_INDEX : start;
    }

    public int fragmentLength(int packet, int fragment) {
        int start = device.memory.partStart(device.memory.find(packet), fragment);
        return start == NO_CELL ? BAD_INDEX : device.memory.partLength[start];
    }

    public int freeRuns() {
        return device.memory.countRuns();
    }

    public int runStart(int index) {
        int start = device.memory.findRun(index);
        return start == NO_CELL ? BAD_INDEX : start;
    }

    public int runLength(int index) {
        int start = device.memory.findRun(index);
        return start == NO_CELL ? BAD_INDEX : device.memory.freeLength(start);
    }

    // ---- predictions (nothing is changed)

    public int stageFor(int port, int priority, int size) {
        Port p = device.portAt(port);
        Queue q = device.queueAt(port, priority);
        if (p == null || q == null) {
            return BAD_INDEX;
        }
        if (isOutside(size, 1, MOST_SIZE)) {
            return BAD_VALUE;
        }
        device.judge(p, q, size);
        return device.stage == NO_STAGE ? LOST : device.stage;
    }

    public int largestAdmissible(int port, int priority) {
        Port p = device.portAt(port);
        Queue q = device.queueAt(port, priority);
        if (p == null || q == null) {
            return BAD_INDEX;
        }
        for (int size = MOST_SIZE; size >= 1; size--) {
            device.judge(p, q, size);
            if (device.stage != NO_STAGE) {
                return size;
            }
        }
        return 0;
    }

    public int burstCapacity(int port, int priority, int size) {
        if (device.queueAt(port, priority) == null) {
            return BAD_INDEX;
        }
        if (isOutside(size, 1, MOST_SIZE)) {
            return BAD_VALUE;
        }
        trial.copyFrom(device);
        trial.pushOut = false;
        Port p = trial.portAt(port);
        Queue q = trial.queueAt(port, priority);
        if (p == null || q == null) {
            return BAD_INDEX;
        }
        for (int count = 0; count < MOST_CELLS; count++) {
            if (trial.receive(p, q, size) == LOST) {
                return count;
            }
        }
        return MOST_CELLS;
    }

    public int drainTicks(int port) {
        Port real = device.portAt(port);
        if (real == null) {
            return BAD_INDEX;
        }
        if (real.isIdle()) {
            return 0;
        }
        trial.copyFrom(device);
        Port p = trial.portAt(port);
        if (p == null) {
            return BAD_INDEX;
        }
        // Without a rate, what the first tick cannot send is never sent.
        int bound = p.rate == 0 ? 1 : DRAIN_BOUND;
        for (int tick = 1; tick <= bound; tick++) {
            trial.send(p);
            if (p.isIdle()) {
                return tick;
            }
        }
        return NONE;
    }

    public int equilibrium(int queues, boolean denominator) {
        if (queues < 0 || (queues >> (PRIORITIES * device.portCount)) != 0) {
            return BAD_VALUE;
        }
        int above = 8 * device.poolSize();
        int below = 8;
        for (int bit = 0; bit < PRIORITIES * device.portCount; bit++) {
            Queue q = device.queueAt(bit / PRIORITIES, bit % PRIORITIES);
            if (q != null && ((queues >> bit) & 1) == 1) {
                below += q.alpha;
            }
        }
        int common = Math.max(1, greatestCommonDivisor(above, below));
        return denominator ? below / common : above / common;
    }

    // ---- text, slots, checksum

    public int append(int letter) {
        if (isOutside(letter, 0, LAST_LETTER)) {
            return BAD_VALUE;
        }
        if (text.length >= TEXT_ROOM) {
            return NO_ROOM;
        }
        text.letters[text.length] = letter;
        text.length++;
        return text.length;
    }

    public int clearText() {
        int before = text.length;
        text.length = 0;
        return before;
    }

    public int faultPosition() {
        int fault = text.findFault(device.portCount);
        return fault == NO_FAULT ? NONE : fault;
    }

    public int run() {
        int fault = text.findFault(device.portCount);
        if (fault != NO_FAULT) {
            return FAULT_BASE - fault;
        }
        int lost = 0;
        text.rewind();
        for (int order = 0; order < TEXT_ROOM && text.hasMore(); order++) {
            text.readOrder(device.portCount);
            Port p = device.portAt(text.port);
            if (text.kind == 'a') {
                lost += lossOfArrivals(p, device.queueAt(text.port, text.priority), text.number, text.count);
            } else if (text.kind == 't') {
                for (int i = 0; i < text.number; i++) {
                    device.passTick();
                }
            } else if (text.kind == 'f' && p != null) {
                device.discardAll(p);
            } else if (text.kind == 'g' && p != null) {
                device.giveGrant(p, text.port, text.number);
            }
        }
        return lost;
    }

    public int save(int slot) {
        if (isOutside(slot, 0, SLOTS - 1)) {
            return BAD_INDEX;
        }
        slots[slot].copyFrom(device);
        saved[slot] = true;
        return device.time;
    }

    public int restore(int slot) {
        if (isOutside(slot, 0, SLOTS - 1)) {
            return BAD_INDEX;
        }
        if (!saved[slot]) {
            return NONE;
        }
        device.copyFrom(slots[slot]);
        return device.time;
    }

    public long checksum() {
        long h = 7;
        h = 31 * h + device.time;
        h = 31 * h + device.admitted;
        h = 31 * h + device.sharedLeft();
        h = 31 * h + device.poolSize();
        for (int i = 0; i < device.portCount; i++) {
            h = mixPort(h, device.ports[i]);
        }
        Memory memory = device.memory;
        for (int cell = 0; cell < memory.cells; cell++) {
            if (memory.startsRun(cell)) {
                h = 31 * h + cell;
                h = 31 * h + memory.freeLength(cell);
            }
        }
        return h;
    }

    private long mixPort(long start, Port p) {
        long h = start;
        h = 31 * h + p.guaranteeLeft();
        h = 31 * h + p.grant;
        h = 31 * h + p.credit;
        h = 31 * h + p.departed;
        h = 31 * h + p.lostCells;
        for (Queue q : p.queues) {
            h = 31 * h + q.guaranteed;
            h = 31 * h + q.shared;
            h = 31 * h + q.inHeadroom;
            h = 31 * h + q.tank;
            h = 31 * h + asNumber(q.paused);
            h = 31 * h + q.deficit;
            h = 31 * h + q.length;
            h = mixPackets(h, q);
        }
        return h;
    }

    private long mixPackets(long start, Queue q) {
        Memory memory = device.memory;
        long h = start;
        int packet = q.first;
        for (int i = 0; i < q.length; i++) {
            h = 31 * h + memory.numberOf(packet);
            int part = packet;
            for (int j = 0; j < memory.partsOf(packet); j++) {
                h = 31 * h + part;
                part = memory.partBehind(part);
            }
            packet = memory.packetBehind(packet);
        }
        return h;
    }

    /** Lets equal packets arrive and tells how many of them are lost. */
    private int lossOfArrivals(Port p, Queue q, int size, int count) {
        if (p == null || q == null) {
            return 0;
        }
        int lost = 0;
        for (int i = 0; i < count; i++) {
            if (device.receive(p, q, size) == LOST) {
                lost++;
            }
        }
        return lost;
    }

    private static boolean isOutside(int value, int least, int most) {
        return value < least || value > most;
    }

    private static int asNumber(boolean flag) {
        return flag ? 1 : 0;
    }

    private static int greatestCommonDivisor(int first, int second) {
        int a = first;
        int b = second;
        // Euclid's remainders of two ints reach 0 in fewer than 64 steps.
        for (int step = 0; step < 64 && b != 0; step++) {
            int rest = a % b;
            a = b;
            b = rest;
        }
        return a;
    }

    /** The parameters and counts of a queue, and the ends of its chain of packets in the memory. */
    private static final class Queue {
        final int priority;
        int alpha;
        int capacity;
        int refill;
        int tank;
        int quantum;
        int deficit;
        boolean lossless;
        boolean paused;
        int pauses;
        int guaranteed;
        int shared;
        int inHeadroom;
        int first;
        int last;
        int length;

        Queue(int priority) {
            this.priority = priority;
        }

        void startAnew() {
            alpha = 8;
            capacity = 0;
            refill = 0;
            tank = 0;
            quantum = 4;
            deficit = 0;
            lossless = false;
            paused = false;
            pauses = 0;
            guaranteed = 0;
            shared = 0;
            inHeadroom = 0;
            first = NO_CELL;
            last = NO_CELL;
            length = 0;
        }

        void copyFrom(Queue other) {
            alpha = other.alpha;
            capacity = other.capacity;
            refill = other.refill;
            tank = other.tank;
            quantum = other.quantum;
            deficit = other.deficit;
            lossless = other.lossless;
            paused = other.paused;
            pauses = other.pauses;
            guaranteed = other.guaranteed;
            shared = other.shared;
            inHeadroom = other.inHeadroom;
            first = other.first;
            last = other.last;
            length = other.length;
        }

        int limitWith(int freeShared) {
            return alpha * freeShared / 8;
        }

        /** The code with which stage 2 refuses a packet that needs so many shared cells. */
        int poolRefusal(int rest, int freeShared) {
            if (rest > freeShared) {
                return POOL_EMPTY;
            }
            return shared + rest - limitWith(freeShared) <= tank ? NOT_REFUSED : OVER_THRESHOLD;
        }

        /** Counts the shared cells of a packet; the tank pays for what exceeds the threshold. */
        void addShared(int more, int freeShared) {
            tank -= Math.max(0, shared + more - limitWith(freeShared));
            shared += more;
        }

        void pause() {
            if (!paused) {
                paused = true;
                pauses++;
            }
        }

        /** Takes the cells of a leaving packet from the counts. */
        void giveBack(int cells) {
            int left = cells;
            int part = Math.min(left, inHeadroom);
            inHeadroom -= part;
            left -= part;
            part = Math.min(left, shared);
            shared -= part;
            left -= part;
            guaranteed -= left;
        }
    }

    /** The parameters and counts of a port with its three queues. */
    private static final class Port {
        final Queue[] queues;
        final int[] losses;
        int reserve;
        int headroom;
        int grant;
        boolean roundRobin;
        int rate;
        int credit;
        int turn;
        boolean quantumDue;
        int lostCells;
        int departed;

        Port() {
            queues = new Queue[PRIORITIES];
            for (int priority = 0; priority < PRIORITIES; priority++) {
                queues[priority] = new Queue(priority);
            }
            losses = new int[FLUSHED + 1];
        }

        void startAnew() {
            for (Queue q : queues) {
                q.startAnew();
            }
            for (int cause = 0; cause < losses.length; cause++) {
                losses[cause] = 0;
            }
            reserve = 0;
            headroom = 0;
            grant = 0;
            roundRobin = false;
            rate = 4;
            restartSending();
            lostCells = 0;
            departed = 0;
        }

        void copyFrom(Port other) {
            for (int priority = 0; priority < PRIORITIES; priority++) {
                queues[priority].copyFrom(other.queues[priority]);
            }
            System.arraycopy(other.losses, 0, losses, 0, FLUSHED + 1);
            reserve = other.reserve;
            headroom = other.headroom;
            grant = other.grant;
            roundRobin = other.roundRobin;
            rate = other.rate;
            credit = other.credit;
            turn = other.turn;
            quantumDue = other.quantumDue;
            lostCells = other.lostCells;
            departed = other.departed;
        }

        int guaranteedInUse() {
            return queues[0].guaranteed + queues[1].guaranteed + queues[2].guaranteed;
        }

        int sharedInUse() {
            return queues[0].shared + queues[1].shared + queues[2].shared;
        }

        int headroomInUse() {
            return queues[0].inHeadroom + queues[1].inHeadroom + queues[2].inHeadroom;
        }

        int guaranteeLeft() {
            return reserve + grant - guaranteedInUse();
        }

        boolean isIdle() {
            return queues[0].length + queues[1].length + queues[2].length == 0;
        }

        /** The queue that strict priority serves; null if the port has no packets. */
        Queue highestBusyQueue() {
            for (Queue q : queues) {
                if (q.length > 0) {
                    return q;
                }
            }
            return null;
        }

        Queue queueAtTurn() {
            return turn >= 0 && turn < PRIORITIES ? queues[turn] : null;
        }

        void passTurn() {
            turn = turn < PRIORITIES - 1 ? turn + 1 : 0;
            quantumDue = true;
        }

        void restartSending() {
            credit = 0;
            turn = 0;
            quantumDue = true;
        }

        /** Turns guaranteed cells that the guarantee does not cover any more into shared ones. */
        void shareBeyondGuarantee() {
            int excess = -guaranteeLeft();
            for (int priority = PRIORITIES - 1; priority >= 0 && excess > 0; priority--) {
                Queue q = queues[priority];
                int moved = Math.min(excess, q.guaranteed);
                q.guaranteed -= moved;
                q.shared += moved;
                excess -= moved;
            }
        }

        void countLoss(int cause, int size) {
            if (cause >= 0 && cause < losses.length) {
                losses[cause]++;
            }
            lostCells += size;
        }
    }

    /**
     * The cells and the packets in them. A packet is known by the first cell of its first fragment,
     * and what is kept of it stands at that index; so does what is kept of a fragment at its first cell.
     */
    private static final class Memory {
        int cells;
        final boolean[] taken;
        final int[] partLength;
        final int[] nextPart;
        final int[] numbers;
        final int[] sizes;
        final int[] parts;
        final int[] ahead;
        final int[] behind;

        Memory() {
            taken = new boolean[MOST_CELLS];
            partLength = new int[MOST_CELLS];
            nextPart = new int[MOST_CELLS];
            numbers = new int[MOST_CELLS];
            sizes = new int[MOST_CELLS];
            parts = new int[MOST_CELLS];
            ahead = new int[MOST_CELLS];
            behind = new int[MOST_CELLS];
        }

        void startAnew(int cellCount) {
            cells = cellCount;
            for (int cell = 0; cell < MOST_CELLS; cell++) {
                taken[cell] = false;
                numbers[cell] = NO_PACKET;
            }
        }

        void copyFrom(Memory other) {
            cells = other.cells;
            for (int cell = 0; cell < MOST_CELLS; cell++) {
                taken[cell] = other.taken[cell];
            }
            System.arraycopy(other.partLength, 0, partLength, 0, MOST_CELLS);
            System.arraycopy(other.nextPart, 0, nextPart, 0, MOST_CELLS);
            System.arraycopy(other.numbers, 0, numbers, 0, MOST_CELLS);
            System.arraycopy(other.sizes, 0, sizes, 0, MOST_CELLS);
            System.arraycopy(other.parts, 0, parts, 0, MOST_CELLS);
            System.arraycopy(other.ahead, 0, ahead, 0, MOST_CELLS);
            System.arraycopy(other.behind, 0, behind, 0, MOST_CELLS);
        }

        boolean isCell(int cell) {
            return cell >= 0 && cell < MOST_CELLS;
        }

        int numberOf(int packet) {
            return isCell(packet) ? numbers[packet] : NO_PACKET;
        }

        int sizeOf(int packet) {
            return isCell(packet) ? sizes[packet] : 0;
        }

        int partsOf(int packet) {
            return isCell(packet) ? parts[packet] : 0;
        }

        /** The packet ahead of this one in its queue. */
        int packetAhead(int packet) {
            return isCell(packet) ? ahead[packet] : NO_CELL;
        }

        /** The packet behind this one in its queue. */
        int packetBehind(int packet) {
            return isCell(packet) ? behind[packet] : NO_CELL;
        }

        int partBehind(int part) {
            return isCell(part) ? nextPart[part] : NO_CELL;
        }

        int find(int number) {
            if (number < 0) {
                return NO_CELL;
            }
            for (int cell = 0; cell < cells; cell++) {
                if (numbers[cell] == number) {
                    return cell;
                }
            }
            return NO_CELL;
        }

        int partStart(int packet, int fragment) {
            if (fragment < 0 || fragment >= partsOf(packet)) {
                return NO_CELL;
            }
            int part = packet;
            for (int i = 0; i < fragment; i++) {
                part = partBehind(part);
            }
            return isCell(part) ? part : NO_CELL;
        }

        boolean startsRun(int cell) {
            return cell >= 0 && cell < cells && !taken[cell] && (cell == 0 || taken[cell - 1]);
        }

        /** How many successive cells are free from this one on. */
        int freeLength(int start) {
            int length = 0;
            for (int cell = Math.max(0, start); cell < cells && !taken[cell]; cell++) {
                length++;
            }
            return length;
        }

        int countRuns() {
            int count = 0;
            for (int cell = 0; cell < cells; cell++) {
                if (startsRun(cell)) {
                    count++;
                }
            }
            return count;
        }

        int findRun(int index) {
            int count = 0;
            for (int cell = 0; cell < cells; cell++) {
                if (startsRun(cell)) {
                    if (count == index) {
                        return cell;
                    }
                    count++;
                }
            }
            return NO_CELL;
        }

        /** Places a packet and answers the cell by which it is known. */
        int place(int number, int size) {
            int packet = NO_CELL;
            int lastPart = NO_CELL;
            int left = size;
            int count = 0;
            for (int i = 0; i < MOST_SIZE && left > 0; i++) {
                int part = chooseRun(left);
                if (!isCell(part)) {
                    break;
                }
                int length = Math.min(left, freeLength(part));
                occupy(part, length);
                if (isCell(lastPart)) {
                    nextPart[lastPart] = part;
                } else {
                    packet = part;
                }
                lastPart = part;
                left -= length;
                count++;
            }
            if (isCell(packet)) {
                numbers[packet] = number;
                sizes[packet] = size;
                parts[packet] = count;
            }
            return packet;
        }

        /** The first cell of the run that the next fragment of a packet takes. */
        private int chooseRun(int wanted) {
            int best = NO_CELL;
            int bestLength = 0;
            for (int cell = 0; cell < cells; cell++) {
                if (startsRun(cell)) {
                    int length = freeLength(cell);
                    if (suitsBetter(length, bestLength, wanted)) {
                        best = cell;
                        bestLength = length;
                    }
                }
            }
            return best;
        }

        /** Of runs that hold all the cells the shortest suits best, of others the longest. */
        private static boolean suitsBetter(int length, int other, int wanted) {
            if (other >= wanted) {
                return length >= wanted && length < other;
            }
            return length > other;
        }

        private void occupy(int part, int length) {
            for (int cell = part; cell < part + length && cell < MOST_CELLS; cell++) {
                taken[cell] = true;
            }
            partLength[part] = length;
            nextPart[part] = NO_CELL;
        }

        void release(int packet) {
            int part = packet;
            for (int i = 0; i < MOST_SIZE && isCell(part); i++) {
                int end = Math.min(MOST_CELLS, part + partLength[part]);
                for (int cell = part; cell < end; cell++) {
                    taken[cell] = false;
                }
                part = nextPart[part];
            }
            if (isCell(packet)) {
                numbers[packet] = NO_PACKET;
            }
        }

        void joinQueue(Queue q, int packet) {
            if (!isCell(packet)) {
                return;
            }
            ahead[packet] = q.last;
            behind[packet] = NO_CELL;
            if (isCell(q.last)) {
                behind[q.last] = packet;
            } else {
                q.first = packet;
            }
            q.last = packet;
            q.length++;
        }

        void leaveQueue(Queue q, int packet) {
            if (!isCell(packet)) {
                return;
            }
            int before = ahead[packet];
            int after = behind[packet];
            if (isCell(before)) {
                behind[before] = after;
            } else {
                q.first = after;
            }
            if (isCell(after)) {
                ahead[after] = before;
            } else {
                q.last = before;
            }
            q.length--;
        }
    }

    /** The whole switch: all that is saved and restored. */
    private static final class Device {
        final Memory memory;
        final Port[] ports;
        int portCount;
        boolean pushOut;
        int time;
        int admitted;
        int olderGrant;
        int newerGrant;
        final int[] lastRefusals;
        boolean hasRefused;
        /** The stage that admits the packet judged last, and the codes of the stages ahead of it. */
        int stage;
        final int[] refusals;
        /** How many victims the packet judged last needs. */
        int victims;

        Device() {
            memory = new Memory();
            ports = new Port[MOST_PORTS];
            for (int port = 0; port < MOST_PORTS; port++) {
                ports[port] = new Port();
            }
            lastRefusals = new int[STAGES];
            refusals = new int[STAGES];
        }

        void startAnew(int cells, int portsWanted) {
            memory.startAnew(cells);
            for (Port p : ports) {
                p.startAnew();
            }
            portCount = portsWanted;
            pushOut = false;
            time = 0;
            admitted = 0;
            olderGrant = NO_PORT;
            newerGrant = NO_PORT;
            hasRefused = false;
        }

        void copyFrom(Device other) {
            memory.copyFrom(other.memory);
            for (int port = 0; port < MOST_PORTS; port++) {
                ports[port].copyFrom(other.ports[port]);
            }
            portCount = other.portCount;
            pushOut = other.pushOut;
            time = other.time;
            admitted = other.admitted;
            olderGrant = other.olderGrant;
            newerGrant = other.newerGrant;
            System.arraycopy(other.lastRefusals, 0, lastRefusals, 0, STAGES);
            hasRefused = other.hasRefused;
        }

        Port portAt(int port) {
            return port >= 0 && port < portCount ? ports[port] : null;
        }

        Queue queueAt(int port, int priority) {
            if (port < 0 || port >= portCount || priority < 0 || priority >= PRIORITIES) {
                return null;
            }
            return ports[port].queues[priority];
        }

        int poolSize() {
            int size = memory.cells;
            for (int i = 0; i < portCount; i++) {
                Port p = ports[i];
                size -= p.reserve + p.grant + p.headroom;
            }
            return size;
        }

        int sharedLeft() {
            int left = poolSize();
            for (int i = 0; i < portCount; i++) {
                left -= ports[i].sharedInUse();
            }
            return left;
        }

        int giveGrant(Port p, int port, int cells) {
            int loserNumber = p.grant == 0 && newerGrant != NO_PORT ? olderGrant : NO_PORT;
            Port loser = portAt(loserNumber);
            int room = sharedLeft();
            if (loser != null) {
                room += loser.grant - Math.max(0, loser.guaranteedInUse() - loser.reserve);
            }
            if (cells - p.grant > room) {
                return NO_ROOM;
            }
            if (loser != null) {
                endGrant(loser, loserNumber);
            }
            if (p.grant == 0) {
                rememberGrant(port);
            }
            p.grant = cells;
            p.shareBeyondGuarantee();
            return loser == null ? NONE : loserNumber;
        }

        private void rememberGrant(int port) {
            if (olderGrant == NO_PORT) {
                olderGrant = port;
            } else {
                newerGrant = port;
            }
        }

        void endGrant(Port p, int port) {
            p.grant = 0;
            p.shareBeyondGuarantee();
            if (olderGrant == port) {
                olderGrant = newerGrant;
            }
            newerGrant = NO_PORT;
        }

        /** Finds the stage that admits an arriving packet, and the codes of those that refuse it. */
        void judge(Port p, Queue q, int size) {
            int freeGuarantee = p.guaranteeLeft();
            int rest = size - Math.min(size, freeGuarantee);
            stage = NO_STAGE;
            victims = 0;
            refusals[0] = rest == 0 ? NOT_REFUSED : GUARANTEE_FULL;
            if (refusals[0] == NOT_REFUSED) {
                stage = 1;
                return;
            }
            int freeShared = sharedLeft();
            refusals[1] = q.poolRefusal(rest, freeShared);
            if (refusals[1] == NOT_REFUSED) {
                stage = 2;
                return;
            }
            refusals[2] = headroomRefusal(p, q, rest);
            if (refusals[2] == NOT_REFUSED) {
                stage = 3;
                return;
            }
            refusals[3] = PUSH_OUT_OFF;
            if (pushOut) {
                victims = victimsNeeded(p, q, size, freeGuarantee, freeShared);
                refusals[3] = NO_VICTIM;
            }
            if (victims > 0) {
                stage = 4;
            }
        }

        private static int headroomRefusal(Port p, Queue q, int rest) {
            if (!q.lossless) {
                return NOT_LOSSLESS;
            }
            return rest > p.headroom - p.headroomInUse() ? HEADROOM_FULL : NOT_REFUSED;
        }

        /** The lowest number of victims that makes room by stage 1 or 2; 0 if there is none. */
        private int victimsNeeded(Port p, Queue q, int size, int freeGuarantee, int freeShared) {
            int guaranteeThen = freeGuarantee;
            int sharedThen = freeShared;
            int count = 0;
            for (int lower = PRIORITIES - 1; lower > q.priority; lower--) {
                Queue from = p.queues[lower];
                int inHeadroom = from.inHeadroom;
                int shared = from.shared;
                int packet = from.last;
                for (int i = 0; i < from.length; i++) {
                    int left = memory.sizeOf(packet);
                    int part = Math.min(left, inHeadroom);
                    inHeadroom -= part;
                    left -= part;
                    part = Math.min(left, shared);
                    shared -= part;
                    left -= part;
                    sharedThen += part;
                    guaranteeThen += left;
                    count++;
                    int rest = size - Math.min(size, guaranteeThen);
                    if (rest == 0 || q.poolRefusal(rest, sharedThen) == NOT_REFUSED) {
                        return count;
                    }
                    packet = memory.packetAhead(packet);
                }
            }
            return 0;
        }

        /** Lets a packet arrive; answers its number, or LOST. */
        int receive(Port p, Queue q, int size) {
            judge(p, q, size);
            if (stage == NO_STAGE) {
                System.arraycopy(refusals, 0, lastRefusals, 0, STAGES);
                hasRefused = true;
                p.countLoss(q.lossless ? HEADROOM_FULL : refusals[1], size);
                return LOST;
            }
            removeVictims(p, q.priority);
            chargeCells(p, q, size);
            int number = admitted;
            memory.joinQueue(q, memory.place(number, size));
            admitted++;
            return number;
        }

        private void removeVictims(Port p, int priority) {
            int left = victims;
            for (int lower = PRIORITIES - 1; lower > priority; lower--) {
                Queue from = p.queues[lower];
                int count = Math.min(left, from.length);
                for (int i = 0; i < count; i++) {
                    p.countLoss(PUSHED_OUT, memory.sizeOf(from.last));
                    takeOut(p, from, from.last);
                }
                left -= count;
            }
        }

        /** Counts the cells of a packet that the stage has admitted. */
        private void chargeCells(Port p, Queue q, int size) {
            int fromGuarantee = Math.min(size, p.guaranteeLeft());
            int rest = size - fromGuarantee;
            if (stage == 3) {
                q.inHeadroom += rest;
                q.pause();
            } else if (rest > 0) {
                q.addShared(rest, sharedLeft());
            }
            q.guaranteed += fromGuarantee;
        }

        /** Takes a packet out of its queue and out of the memory. */
        private void takeOut(Port p, Queue q, int packet) {
            q.giveBack(memory.sizeOf(packet));
            memory.leaveQueue(q, packet);
            memory.release(packet);
            if (q.length == 0) {
                q.deficit = 0;
            }
            if (p.isIdle()) {
                p.restartSending();
            }
        }

        int discardAll(Port p) {
            int count = 0;
            for (Queue q : p.queues) {
                for (int i = 0; i < MOST_CELLS && q.length > 0; i++) {
                    p.countLoss(FLUSHED, memory.sizeOf(q.first));
                    takeOut(p, q, q.first);
                    count++;
                }
            }
            return count;
        }

        /** Lets a tick pass; answers how many packets depart. */
        int passTick() {
            int sent = 0;
            for (int i = 0; i < portCount; i++) {
                sent += send(ports[i]);
            }
            int freeShared = sharedLeft();
            for (int i = 0; i < portCount; i++) {
                for (Queue q : ports[i].queues) {
                    q.tank = Math.min(q.capacity, q.tank + q.refill);
                    if (q.inHeadroom == 0 && q.shared + 2 <= q.limitWith(freeShared)) {
                        q.paused = false;
                    }
                }
            }
            time++;
            return sent;
        }

        /** Lets a port send for one tick; answers how many packets depart. */
        int send(Port p) {
            if (p.isIdle()) {
                return 0;
            }
            p.credit += p.rate;
            int sent = p.roundRobin ? sendInTurns(p) : sendByPriority(p);
            p.departed += sent;
            return sent;
        }

        private int sendByPriority(Port p) {
            int sent = 0;
            for (int i = 0; i < MOST_CELLS; i++) {
                Queue q = p.highestBusyQueue();
                if (q == null) {
                    break;
                }
                int size = memory.sizeOf(q.first);
                if (size > p.credit) {
                    break;
                }
                p.credit -= size;
                takeOut(p, q, q.first);
                sent++;
            }
            return sent;
        }

        private int sendInTurns(Port p) {
            int sent = 0;
            for (int step = 0; step < TURN_BOUND && !p.isIdle(); step++) {
                Queue q = p.queueAtTurn();
                if (q == null || q.length == 0) {
                    p.passTurn();
                    continue;
                }
                if (p.quantumDue) {
                    q.deficit += q.quantum;
                    p.quantumDue = false;
                }
                int size = memory.sizeOf(q.first);
                if (size > q.deficit) {
                    p.passTurn();
                    continue;
                }
                if (size > p.credit) {
                    break;
                }
                q.deficit -= size;
                p.credit -= size;
                takeOut(p, q, q.first);
                sent++;
            }
            return sent;
        }
    }

    /** The text and a reader of its orders, which keeps the order that it read last. */
    private static final class Text {
        final int[] letters;
        int length;
        private int at;
        private int fault;
        int kind;
        int port;
        int priority;
        int number;
        int count;

        Text() {
            letters = new int[TEXT_ROOM];
        }

        void rewind() {
            at = 0;
            fault = NO_FAULT;
        }

        boolean hasMore() {
            return at < length;
        }

        int findFault(int ports) {
            rewind();
            for (int order = 0; order < TEXT_ROOM && at < length && fault == NO_FAULT; order++) {
                readOrder(ports);
            }
            return fault;
        }

        /** Reads an order with its semicolon; behind a fault nothing more is read. */
        void readOrder(int ports) {
            kind = letterHere();
            port = NO_PORT;
            count = 1;
            switch (kind) {
                case 'a':
                    at++;
                    port = readDigit(ports);
                    priority = readDigit(PRIORITIES);
                    number = readNumber(1, MOST_SIZE);
                    readCount();
                    break;
                case 't':
                    at++;
                    number = readNumber(1, MOST_TICKS);
                    break;
                case 'f':
                    at++;
                    port = readDigit(ports);
                    break;
                case 'g':
                    at++;
                    port = readDigit(ports);
                    expect(',');
                    number = readNumber(1, MOST_GRANT);
                    break;
                default:
                    fault = at;
                    break;
            }
            expect(';');
        }

        private void readCount() {
            if (fault == NO_FAULT && letterHere() == '*') {
                at++;
                count = readNumber(2, 9);
            }
        }

        private int letterHere() {
            return at >= 0 && at < length && at < TEXT_ROOM ? letters[at] : END_OF_TEXT;
        }

        private void expect(int letter) {
            if (fault != NO_FAULT) {
                return;
            }
            if (letterHere() == letter) {
                at++;
            } else {
                fault = at;
            }
        }

        private int readDigit(int bound) {
            int digit = letterHere() - '0';
            if (fault != NO_FAULT) {
                return 0;
            }
            if (digit < 0 || digit >= bound) {
                fault = at;
                return 0;
            }
            at++;
            return digit;
        }

        private int readNumber(int least, int most) {
            if (fault != NO_FAULT) {
                return least;
            }
            int start = at;
            int firstLetter = letterHere();
            int value = 0;
            while (at < length && letterHere() >= '0' && letterHere() <= '9') {
                // Beyond three digits the value is out of every range and must not overflow.
                value = Math.min(999, value * 10 + letterHere() - '0');
                at++;
            }
            if (firstLetter == '0' || value < least || value > most) {
                fault = start;
            }
            return value;
        }
    }
}
