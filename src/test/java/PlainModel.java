import java.math.BigInteger;
import java.util.ArrayList;
import java.util.List;
import java.util.regex.Matcher;
import java.util.regex.Pattern;

/**
 * The document once more, written for plainness alone: lists of packets, whole copies for every
 * 'what would be', regular expressions for the text. ModelTest holds the class against it.
 */
final class PlainModel {
    private static final int BAD_INDEX = -1;
    private static final int BAD_VALUE = -2;
    private static final int NO_ROOM = -3;
    private static final int IN_USE = -4;
    private static final int NONE = -5;
    private static final int LOST = -6;

    private static final class Packet {
        int number;
        int size;
        List<int[]> fragments = new ArrayList<>();

        Packet copy() {
            Packet p = new Packet();
            p.number = number;
            p.size = size;
            p.fragments = new ArrayList<>(fragments);
            return p;
        }
    }

    private static final class Queue {
        List<Packet> packets = new ArrayList<>();
        int alpha = 8;
        int capacity;
        int refill;
        int content;
        int quantum = 4;
        int deficit;
        boolean lossless;
        boolean paused;
        int pauses;
        int guaranteed;
        int shared;
        int headroom;

        Queue copy() {
            Queue q = new Queue();
            for (Packet p : packets) {
                q.packets.add(p.copy());
            }
            q.alpha = alpha;
            q.capacity = capacity;
            q.refill = refill;
            q.content = content;
            q.quantum = quantum;
            q.deficit = deficit;
            q.lossless = lossless;
            q.paused = paused;
            q.pauses = pauses;
            q.guaranteed = guaranteed;
            q.shared = shared;
            q.headroom = headroom;
            return q;
        }
    }

    private static final class Port {
        Queue[] queues = {new Queue(), new Queue(), new Queue()};
        int reserve;
        int headroom;
        int grant;
        boolean roundRobin;
        int rate = 4;
        int credit;
        int turn;
        boolean flag = true;
        int[] losses = new int[10];
        int lostCells;
        int departed;

        boolean hasPackets() {
            for (Queue q : queues) {
                if (!q.packets.isEmpty()) {
                    return true;
                }
            }
            return false;
        }

        int freeGuarantee() {
            int free = reserve + grant;
            for (Queue q : queues) {
                free -= q.guaranteed;
            }
            return free;
        }

        int headroomCells() {
            int sum = 0;
            for (Queue q : queues) {
                sum += q.headroom;
            }
            return sum;
        }

        void shrink() {
            for (int priority = 2; priority >= 0; priority--) {
                while (freeGuarantee() < 0 && queues[priority].guaranteed > 0) {
                    queues[priority].guaranteed--;
                    queues[priority].shared++;
                }
            }
        }

        void turnGoesOn() {
            turn = (turn + 1) % 3;
            flag = true;
        }

        Port copy() {
            Port p = new Port();
            for (int i = 0; i < 3; i++) {
                p.queues[i] = queues[i].copy();
            }
            p.reserve = reserve;
            p.headroom = headroom;
            p.grant = grant;
            p.roundRobin = roundRobin;
            p.rate = rate;
            p.credit = credit;
            p.turn = turn;
            p.flag = flag;
            p.losses = losses.clone();
            p.lostCells = lostCells;
            p.departed = departed;
            return p;
        }
    }

    private static final class State {
        int cells;
        List<Port> ports = new ArrayList<>();
        List<Integer> granted = new ArrayList<>();
        boolean pushOut;
        int time;
        int admitted;
        int[] causes;

        State(int cells, int ports) {
            this.cells = cells;
            for (int i = 0; i < ports; i++) {
                this.ports.add(new Port());
            }
        }

        State copy() {
            State s = new State(cells, 0);
            for (Port p : ports) {
                s.ports.add(p.copy());
            }
            s.granted = new ArrayList<>(granted);
            s.pushOut = pushOut;
            s.time = time;
            s.admitted = admitted;
            s.causes = causes == null ? null : causes.clone();
            return s;
        }

        int pool() {
            int pool = cells;
            for (Port p : ports) {
                pool -= p.reserve + p.grant + p.headroom;
            }
            return pool;
        }

        int free() {
            int free = pool();
            for (Port p : ports) {
                for (Queue q : p.queues) {
                    free -= q.shared;
                }
            }
            return free;
        }

        int threshold(Queue q) {
            return q.alpha * free() / 8;
        }

        boolean[] occupied() {
            boolean[] occupied = new boolean[cells];
            for (Port p : ports) {
                for (Queue q : p.queues) {
                    for (Packet packet : q.packets) {
                        for (int[] fragment : packet.fragments) {
                            for (int i = 0; i < fragment[1]; i++) {
                                if (occupied[fragment[0] + i]) {
                                    throw new IllegalStateException("a cell has two packets");
                                }
                                occupied[fragment[0] + i] = true;
                            }
                        }
                    }
                }
            }
            return occupied;
        }

        List<int[]> runs(boolean[] occupied) {
            List<int[]> runs = new ArrayList<>();
            int[] run = null;
            for (int c = 0; c < cells; c++) {
                if (occupied[c]) {
                    run = null;
                } else if (run == null) {
                    run = new int[] {c, 1};
                    runs.add(run);
                } else {
                    run[1]++;
                }
            }
            return runs;
        }

        void place(Packet packet) {
            boolean[] occupied = occupied();
            int m = packet.size;
            while (m > 0) {
                int[] fit = null;
                int[] longest = null;
                for (int[] run : runs(occupied)) {
                    if (run[1] >= m && (fit == null || run[1] < fit[1])) {
                        fit = run;
                    }
                    if (longest == null || run[1] > longest[1]) {
                        longest = run;
                    }
                }
                int[] fragment = fit != null ? new int[] {fit[0], m} : longest;
                packet.fragments.add(fragment);
                for (int i = 0; i < fragment[1]; i++) {
                    occupied[fragment[0] + i] = true;
                }
                m -= fragment[1];
            }
        }

        void remove(Port p, Queue q, Packet packet) {
            q.packets.remove(packet);
            for (int i = 0; i < packet.size; i++) {
                if (q.headroom > 0) {
                    q.headroom--;
                } else if (q.shared > 0) {
                    q.shared--;
                } else {
                    q.guaranteed--;
                }
            }
            if (q.packets.isEmpty()) {
                q.deficit = 0;
            }
            if (!p.hasPackets()) {
                p.credit = 0;
                p.turn = 0;
                p.flag = true;
            }
        }

        void lose(Port p, int cause, int size) {
            p.losses[cause]++;
            p.lostCells += size;
        }

        /** Removes the first k victims; false if there are fewer. */
        boolean removeVictims(int port, int priority, int k) {
            Port p = ports.get(port);
            int left = k;
            for (int lower = 2; lower > priority; lower--) {
                Queue q = p.queues[lower];
                while (left > 0 && !q.packets.isEmpty()) {
                    Packet victim = q.packets.get(q.packets.size() - 1);
                    lose(p, 8, victim.size);
                    remove(p, q, victim);
                    left--;
                }
            }
            return left == 0;
        }

        /** The refusals of stages 1 and 2; 0 at the stage that admits. */
        int[] firstTwo(int port, int priority, int n) {
            Port p = ports.get(port);
            Queue q = p.queues[priority];
            int g = Math.min(n, p.freeGuarantee());
            if (g == n) {
                return new int[] {0, 0};
            }
            int r = n - g;
            if (r > free()) {
                return new int[] {1, 2};
            }
            int x = q.shared + r - threshold(q);
            return new int[] {1, x <= q.content ? 0 : 3};
        }

        /** {stage, victims, code 1, code 2, code 3, code 4}; stage 0 if it is lost. */
        int[] judge(int port, int priority, int n) {
            Port p = ports.get(port);
            Queue q = p.queues[priority];
            int[] two = firstTwo(port, priority, n);
            if (two[0] == 0) {
                return new int[] {1, 0, 0, 0, 0, 0};
            }
            if (two[1] == 0) {
                return new int[] {2, 0, 1, 0, 0, 0};
            }
            int r = n - Math.min(n, p.freeGuarantee());
            int third = !q.lossless ? 4 : r > p.headroom - p.headroomCells() ? 5 : 0;
            if (third == 0) {
                return new int[] {3, 0, two[0], two[1], 0, 0};
            }
            if (!pushOut) {
                return new int[] {0, 0, two[0], two[1], third, 6};
            }
            for (int k = 1; ; k++) {
                State s = copy();
                if (!s.removeVictims(port, priority, k)) {
                    return new int[] {0, 0, two[0], two[1], third, 7};
                }
                int[] then = s.firstTwo(port, priority, n);
                if (then[0] == 0 || then[1] == 0) {
                    return new int[] {4, k, two[0], two[1], third, 0};
                }
            }
        }

        int arrive(int port, int priority, int n) {
            Port p = ports.get(port);
            Queue q = p.queues[priority];
            int[] verdict = judge(port, priority, n);
            if (verdict[0] == 0) {
                causes = new int[] {verdict[5], verdict[4], verdict[3], verdict[2]};
                lose(p, q.lossless ? 5 : verdict[3], n);
                return LOST;
            }
            if (verdict[0] == 4) {
                removeVictims(port, priority, verdict[1]);
            }
            int g = Math.min(n, p.freeGuarantee());
            int r = n - g;
            if (verdict[0] == 3) {
                q.headroom += r;
                if (!q.paused) {
                    q.pauses++;
                }
                q.paused = true;
            } else if (r > 0) {
                int x = q.shared + r - threshold(q);
                if (x > 0) {
                    q.content -= x;
                }
                q.shared += r;
            }
            q.guaranteed += g;
            Packet packet = new Packet();
            packet.number = admitted++;
            packet.size = n;
            place(packet);
            q.packets.add(packet);
            return packet.number;
        }

        int send(Port p) {
            if (p.hasPackets()) {
                p.credit += p.rate;
            }
            int sent = 0;
            while (p.hasPackets()) {
                Queue q = p.queues[p.turn];
                if (!p.roundRobin) {
                    q = p.queues[0].packets.isEmpty() ? p.queues[1] : p.queues[0];
                    q = q.packets.isEmpty() ? p.queues[2] : q;
                } else if (q.packets.isEmpty()) {
                    p.turnGoesOn();
                    continue;
                } else if (p.flag) {
                    q.deficit += q.quantum;
                    p.flag = false;
                }
                Packet first = q.packets.get(0);
                if (p.roundRobin && first.size > q.deficit) {
                    p.turnGoesOn();
                    continue;
                }
                if (first.size > p.credit) {
                    break;
                }
                p.credit -= first.size;
                if (p.roundRobin) {
                    q.deficit -= first.size;
                }
                remove(p, q, first);
                p.departed++;
                sent++;
            }
            return sent;
        }

        int tick() {
            int sent = 0;
            for (Port p : ports) {
                sent += send(p);
            }
            for (Port p : ports) {
                for (Queue q : p.queues) {
                    q.content = Math.min(q.capacity, q.content + q.refill);
                }
            }
            for (Port p : ports) {
                for (Queue q : p.queues) {
                    if (q.paused && q.headroom == 0 && q.shared + 2 <= threshold(q)) {
                        q.paused = false;
                    }
                }
            }
            time++;
            return sent;
        }

        int flush(int port) {
            Port p = ports.get(port);
            int count = 0;
            for (Queue q : p.queues) {
                while (!q.packets.isEmpty()) {
                    lose(p, 9, q.packets.get(0).size);
                    remove(p, q, q.packets.get(0));
                    count++;
                }
            }
            return count;
        }

        void withdraw(int port) {
            ports.get(port).grant = 0;
            ports.get(port).shrink();
            granted.remove(Integer.valueOf(port));
        }

        Packet find(int number) {
            for (Port p : ports) {
                for (Queue q : p.queues) {
                    for (Packet packet : q.packets) {
                        if (packet.number == number) {
                            return packet;
                        }
                    }
                }
            }
            return null;
        }
    }

    private State state = new State(64, 4);
    private final State[] slots = new State[2];
    private String text = "";

    private boolean noPort(int port) {
        return port < 0 || port >= state.ports.size();
    }

    private boolean noQueue(int port, int priority) {
        return noPort(port) || priority < 0 || priority > 2;
    }

    private Queue queue(int port, int priority) {
        return state.ports.get(port).queues[priority];
    }

    private static boolean in(int value, int low, int high) {
        return low <= value && value <= high;
    }

    int reset(int cells, int ports) {
        if (!in(cells, 16, 128) || !in(ports, 1, 6)) {
            return BAD_VALUE;
        }
        int before = state.cells;
        state = new State(cells, ports);
        return before;
    }

    int setReserve(int port, int cells) {
        if (noPort(port)) {
            return BAD_INDEX;
        }
        if (!in(cells, 0, 64)) {
            return BAD_VALUE;
        }
        Port p = state.ports.get(port);
        int before = p.reserve;
        if (cells - before > state.free()) {
            return NO_ROOM;
        }
        p.reserve = cells;
        p.shrink();
        return before;
    }

    int setHeadroom(int port, int cells) {
        if (noPort(port)) {
            return BAD_INDEX;
        }
        if (!in(cells, 0, 64)) {
            return BAD_VALUE;
        }
        Port p = state.ports.get(port);
        int before = p.headroom;
        if (p.headroomCells() > cells) {
            return IN_USE;
        }
        if (cells - before > state.free()) {
            return NO_ROOM;
        }
        p.headroom = cells;
        return before;
    }

    int setAlpha(int port, int priority, int eighths) {
        if (noQueue(port, priority)) {
            return BAD_INDEX;
        }
        if (!in(eighths, 0, 64)) {
            return BAD_VALUE;
        }
        int before = queue(port, priority).alpha;
        queue(port, priority).alpha = eighths;
        return before;
    }

    int setBurst(int port, int priority, int capacity, int refill) {
        if (noQueue(port, priority)) {
            return BAD_INDEX;
        }
        if (!in(capacity, 0, 32) || !in(refill, 0, 8)) {
            return BAD_VALUE;
        }
        Queue q = queue(port, priority);
        int before = q.content;
        q.capacity = capacity;
        q.refill = refill;
        q.content = capacity;
        return before;
    }

    int setLossless(int port, int priority, boolean lossless) {
        if (noQueue(port, priority)) {
            return BAD_INDEX;
        }
        Queue q = queue(port, priority);
        if (!lossless && q.headroom > 0) {
            return IN_USE;
        }
        int before = q.lossless ? 1 : 0;
        q.lossless = lossless;
        q.paused = q.paused && lossless;
        return before;
    }

    int setScheduler(int port, boolean roundRobin, int rate) {
        if (noPort(port)) {
            return BAD_INDEX;
        }
        if (!in(rate, 0, 16)) {
            return BAD_VALUE;
        }
        Port p = state.ports.get(port);
        int before = p.rate;
        p.rate = rate;
        p.roundRobin = roundRobin;
        return before;
    }

    int setQuantum(int port, int priority, int cells) {
        if (noQueue(port, priority)) {
            return BAD_INDEX;
        }
        if (!in(cells, 1, 16)) {
            return BAD_VALUE;
        }
        int before = queue(port, priority).quantum;
        queue(port, priority).quantum = cells;
        return before;
    }

    int setPushOut(boolean on) {
        int before = state.pushOut ? 1 : 0;
        state.pushOut = on;
        return before;
    }

    int grant(int port, int cells) {
        if (noPort(port)) {
            return BAD_INDEX;
        }
        if (!in(cells, 1, 32)) {
            return BAD_VALUE;
        }
        State then = state.copy();
        int loser = NONE;
        if (!then.granted.contains(port)) {
            if (then.granted.size() == 2) {
                loser = then.granted.get(0);
                then.withdraw(loser);
            }
            then.granted.add(port);
        }
        Port p = then.ports.get(port);
        if (cells - p.grant > then.free()) {
            return NO_ROOM;
        }
        p.grant = cells;
        p.shrink();
        state = then;
        return loser;
    }

    int withdraw(int port) {
        if (noPort(port)) {
            return BAD_INDEX;
        }
        int cells = state.ports.get(port).grant;
        if (cells == 0) {
            return NONE;
        }
        state.withdraw(port);
        return cells;
    }

    int arrive(int port, int priority, int size) {
        if (noQueue(port, priority)) {
            return BAD_INDEX;
        }
        return in(size, 1, 12) ? state.arrive(port, priority, size) : BAD_VALUE;
    }

    int ticks(int n) {
        if (!in(n, 1, 20)) {
            return BAD_VALUE;
        }
        int sent = 0;
        for (int i = 0; i < n; i++) {
            sent += state.tick();
        }
        return sent;
    }

    int flush(int port) {
        return noPort(port) ? BAD_INDEX : state.flush(port);
    }

    int traffic(int seed, int n, int load) {
        if (seed < 0 || !in(n, 1, 16) || !in(load, 1, 3)) {
            return BAD_VALUE;
        }
        BigInteger s = BigInteger.valueOf(seed);
        int lost = 0;
        for (int i = 0; i < n * load; i++) {
            s = s.multiply(BigInteger.valueOf(1103515245)).add(BigInteger.valueOf(12345))
                .mod(BigInteger.ONE.shiftLeft(31));
            int d = s.shiftRight(16).intValueExact();
            if (state.arrive(d % state.ports.size(), (d / 8) % 3, (d / 32) % 12 + 1) == LOST) {
                lost++;
            }
            if (i % load == load - 1) {
                state.tick();
            }
        }
        return lost;
    }

    int freeShared() {
        return state.free();
    }

    int sharedPool() {
        return state.pool();
    }

    int freeGuarantee(int port) {
        return noPort(port) ? BAD_INDEX : state.ports.get(port).freeGuarantee();
    }

    int grantOf(int port) {
        return noPort(port) ? BAD_INDEX : state.ports.get(port).grant;
    }

    int threshold(int port, int priority) {
        return noQueue(port, priority) ? BAD_INDEX : state.threshold(queue(port, priority));
    }

    int guaranteedCells(int port, int priority) {
        return noQueue(port, priority) ? BAD_INDEX : queue(port, priority).guaranteed;
    }

    int sharedCells(int port, int priority) {
        return noQueue(port, priority) ? BAD_INDEX : queue(port, priority).shared;
    }

    int headroomCells(int port, int priority) {
        return noQueue(port, priority) ? BAD_INDEX : queue(port, priority).headroom;
    }

    int burstTank(int port, int priority) {
        return noQueue(port, priority) ? BAD_INDEX : queue(port, priority).content;
    }

    int isPaused(int port, int priority) {
        return noQueue(port, priority) ? BAD_INDEX : queue(port, priority).paused ? 1 : 0;
    }

    int pauses(int port, int priority) {
        return noQueue(port, priority) ? BAD_INDEX : queue(port, priority).pauses;
    }

    int credit(int port) {
        return noPort(port) ? BAD_INDEX : state.ports.get(port).credit;
    }

    int deficit(int port, int priority) {
        return noQueue(port, priority) ? BAD_INDEX : queue(port, priority).deficit;
    }

    int losses(int port, int cause) {
        if (noPort(port)) {
            return BAD_INDEX;
        }
        return List.of(2, 3, 5, 8, 9).contains(cause) ? state.ports.get(port).losses[cause] : BAD_VALUE;
    }

    int lostCells(int port) {
        return noPort(port) ? BAD_INDEX : state.ports.get(port).lostCells;
    }

    int lossCause(int level) {
        if (!in(level, 0, 3)) {
            return BAD_INDEX;
        }
        return state.causes == null ? NONE : state.causes[level];
    }

    int departed(int port) {
        return noPort(port) ? BAD_INDEX : state.ports.get(port).departed;
    }

    int admitted() {
        return state.admitted;
    }

    int time() {
        return state.time;
    }

    int queueLength(int port, int priority) {
        return noQueue(port, priority) ? BAD_INDEX : queue(port, priority).packets.size();
    }

    int packetAt(int port, int priority, int index) {
        if (noQueue(port, priority) || !in(index, 0, queue(port, priority).packets.size() - 1)) {
            return BAD_INDEX;
        }
        return queue(port, priority).packets.get(index).number;
    }

    int fragments(int packet) {
        Packet found = state.find(packet);
        return found == null ? BAD_INDEX : found.fragments.size();
    }

    private int fragment(int packet, int fragment, int field) {
        Packet found = state.find(packet);
        if (found == null || !in(fragment, 0, found.fragments.size() - 1)) {
            return BAD_INDEX;
        }
        return found.fragments.get(fragment)[field];
    }

    int fragmentStart(int packet, int fragment) {
        return fragment(packet, fragment, 0);
    }

    int fragmentLength(int packet, int fragment) {
        return fragment(packet, fragment, 1);
    }

    int freeRuns() {
        return state.runs(state.occupied()).size();
    }

    private int run(int index, int field) {
        List<int[]> runs = state.runs(state.occupied());
        return in(index, 0, runs.size() - 1) ? runs.get(index)[field] : BAD_INDEX;
    }

    int runStart(int index) {
        return run(index, 0);
    }

    int runLength(int index) {
        return run(index, 1);
    }

    int stageFor(int port, int priority, int size) {
        if (noQueue(port, priority)) {
            return BAD_INDEX;
        }
        if (!in(size, 1, 12)) {
            return BAD_VALUE;
        }
        int stage = state.judge(port, priority, size)[0];
        return stage == 0 ? LOST : stage;
    }

    int largestAdmissible(int port, int priority) {
        if (noQueue(port, priority)) {
            return BAD_INDEX;
        }
        int largest = 0;
        for (int size = 1; size <= 12; size++) {
            if (state.judge(port, priority, size)[0] > 0) {
                largest = size;
            }
        }
        return largest;
    }

    int burstCapacity(int port, int priority, int size) {
        if (noQueue(port, priority)) {
            return BAD_INDEX;
        }
        if (!in(size, 1, 12)) {
            return BAD_VALUE;
        }
        State s = state.copy();
        s.pushOut = false;
        int count = 0;
        while (s.arrive(port, priority, size) != LOST) {
            count++;
        }
        return count;
    }

    int drainTicks(int port) {
        if (noPort(port)) {
            return BAD_INDEX;
        }
        State s = state.copy();
        int count = 0;
        while (s.ports.get(port).hasPackets()) {
            if (count > 5000) {
                return NONE;
            }
            s.tick();
            count++;
        }
        return count;
    }

    int equilibrium(int queues, boolean denominator) {
        if (queues < 0) {
            return BAD_VALUE;
        }
        int sum = 0;
        for (int bit = 0; bit < 31; bit++) {
            if ((queues & 1 << bit) != 0) {
                if (noPort(bit / 3)) {
                    return BAD_VALUE;
                }
                sum += queue(bit / 3, bit % 3).alpha;
            }
        }
        BigInteger above = BigInteger.valueOf(8 * state.pool());
        BigInteger below = BigInteger.valueOf(8 + sum);
        BigInteger common = above.gcd(below);
        return (denominator ? below : above).divide(common).intValueExact();
    }

    int append(int letter) {
        if (!in(letter, 0, 127)) {
            return BAD_VALUE;
        }
        if (text.length() == 120) {
            return NO_ROOM;
        }
        text += (char) letter;
        return text.length();
    }

    int clearText() {
        int before = text.length();
        text = "";
        return before;
    }

    /** The first byte with which the text leaves the form, numbers taken as any digits; -1 if none. */
    private int shapeFault() {
        String port = "[0-" + (state.ports.size() - 1) + "]";
        Pattern shape = Pattern.compile("(?:a" + port + "[0-2][0-9]+(?:\\*[0-9]+)?;|t[0-9]+;|f" + port
            + ";|g" + port + ",[0-9]+;)*", Pattern.DOTALL);
        for (int end = 1; end <= text.length(); end++) {
            Matcher m = shape.matcher(text.substring(0, end));
            if (!m.matches() && !m.hitEnd()) {
                return end - 1;
            }
        }
        return shape.matcher(text).matches() ? -1 : text.length();
    }

    /** The first digit of the first wrong number ahead of a byte; that byte if there is none. */
    private int numberFault(int end) {
        String part = text.substring(0, end);
        Matcher m = Pattern.compile("(?:a..([0-9]+)(?:\\*([0-9]+))?|t([0-9]+)|f.|g.,([0-9]+))").matcher(part);
        int[] low = {1, 2, 1, 1};
        int[] high = {12, 9, 20, 32};
        while (m.find()) {
            for (int group = 1; group <= 4; group++) {
                String digits = m.group(group);
                if (digits == null) {
                    continue;
                }
                boolean fine = digits.length() <= 2 && digits.charAt(0) != '0'
                    && in(Integer.parseInt(digits), low[group - 1], high[group - 1]);
                if (!fine) {
                    return m.start(group);
                }
            }
        }
        return end;
    }

    int faultPosition() {
        int shape = shapeFault();
        int end = shape == -1 ? text.length() : shape;
        int number = numberFault(end);
        if (number < end) {
            return number;
        }
        return shape == -1 ? NONE : shape;
    }

    int run() {
        int fault = faultPosition();
        if (fault != NONE) {
            return -1000 - fault;
        }
        int lost = 0;
        for (String order : text.split(";")) {
            if (order.isEmpty()) {
                continue;
            }
            String[] numbers = order.substring(1).split("[*,]");
            if (order.charAt(0) == 'a') {
                int count = numbers.length == 2 ? Integer.parseInt(numbers[1]) : 1;
                for (int i = 0; i < count; i++) {
                    if (arrive(order.charAt(1) - '0', order.charAt(2) - '0', Integer.parseInt(numbers[0].substring(2)))
                        == LOST) {
                        lost++;
                    }
                }
            } else if (order.charAt(0) == 't') {
                ticks(Integer.parseInt(numbers[0]));
            } else if (order.charAt(0) == 'f') {
                flush(Integer.parseInt(numbers[0]));
            } else {
                grant(Integer.parseInt(numbers[0]), Integer.parseInt(numbers[1]));
            }
        }
        return lost;
    }

    int save(int slot) {
        if (!in(slot, 0, 1)) {
            return BAD_INDEX;
        }
        slots[slot] = state.copy();
        return state.time;
    }

    int restore(int slot) {
        if (!in(slot, 0, 1)) {
            return BAD_INDEX;
        }
        if (slots[slot] == null) {
            return NONE;
        }
        state = slots[slot].copy();
        return state.time;
    }

    long checksum() {
        List<Integer> values = new ArrayList<>(List.of(time(), admitted(), freeShared(), sharedPool()));
        for (int port = 0; port < state.ports.size(); port++) {
            values.addAll(List.of(freeGuarantee(port), grantOf(port), credit(port), departed(port), lostCells(port)));
            for (int q = 0; q < 3; q++) {
                values.addAll(List.of(guaranteedCells(port, q), sharedCells(port, q), headroomCells(port, q),
                    burstTank(port, q), isPaused(port, q), deficit(port, q), queueLength(port, q)));
                for (Packet packet : queue(port, q).packets) {
                    values.add(packet.number);
                    for (int[] fragment : packet.fragments) {
                        values.add(fragment[0]);
                    }
                }
            }
        }
        for (int[] run : state.runs(state.occupied())) {
            values.add(run[0]);
            values.add(run[1]);
        }
        long h = 7;
        for (int value : values) {
            h = 31 * h + value;
        }
        return h;
    }
}
