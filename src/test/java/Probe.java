import java.util.ArrayList;
import java.util.List;

/**
 * Makes a state anew from the calls that led to it, perhaps with one call more, and then goes on
 * with calls that bring to light what no question shows: parameters, turns, flags, the ages of
 * grants, the text and the slots.
 */
final class Probe {
    private Probe() {
    }

    static List<Long> of(List<String> past, String more) {
        List<Long> seen = new ArrayList<>();
        goOn(again(past, more), seen);
        askParameters(again(past, more), seen);
        useTanks(again(past, more), seen);
        runText(again(past, more), seen);
        return seen;
    }

    private static SharedPacketBuffer again(List<String> past, String more) {
        SharedPacketBuffer x = new SharedPacketBuffer();
        for (String call : past) {
            Script.call(x, call);
        }
        if (!more.isEmpty()) {
            Script.call(x, more);
        }
        return x;
    }

    /** Ticks show credits, turns, flags and tanks; then the same of what the slots keep. */
    private static void goOn(SharedPacketBuffer x, List<Long> seen) {
        watchTicks(x, seen);
        for (int slot = 0; slot < 2; slot++) {
            seen.add((long) x.restore(slot));
            seen.addAll(Script.everything(x));
            watchTicks(x, seen);
        }
    }

    private static void watchTicks(SharedPacketBuffer x, List<Long> seen) {
        for (int tick = 0; tick < 24; tick++) {
            if (tick == 12) {
                arriveEverywhere(x, seen);
            }
            seen.add((long) x.ticks(1));
            seen.add(x.checksum());
        }
    }

    private static void arriveEverywhere(SharedPacketBuffer x, List<Long> seen) {
        for (int port = 0; port < 6; port++) {
            for (int priority = 2; priority >= 0; priority--) {
                seen.add((long) x.arrive(port, priority, 3));
                seen.add((long) x.arrive(port, priority, 2));
            }
        }
    }

    /** Each call that sets something answers what it was before. */
    private static void askParameters(SharedPacketBuffer x, List<Long> seen) {
        seen.add((long) x.setPushOut(false));
        for (int port = 0; port < 6; port++) {
            int inHeadroom = 0;
            for (int priority = 0; priority < 3; priority++) {
                seen.add((long) x.setAlpha(port, priority, 8));
                seen.add((long) x.setQuantum(port, priority, 4));
                seen.add((long) x.setBurst(port, priority, 0, 0));
                seen.add((long) x.setLossless(port, priority, true));
                inHeadroom += x.headroomCells(port, priority);
            }
            seen.add((long) x.setScheduler(port, false, 4));
            seen.add((long) x.setReserve(port, 0));
            seen.add((long) x.setHeadroom(port, inHeadroom));
            seen.add((long) x.flush(port));
        }
        for (int port = 5; port >= 0; port--) {
            seen.add((long) x.grant(port, 1));
            seen.add((long) x.grantOf(port));
        }
    }

    /** Without a threshold each packet is paid by the tank, and its refill shows in the ticks behind it. */
    private static void useTanks(SharedPacketBuffer x, List<Long> seen) {
        for (int port = 0; port < 6; port++) {
            x.flush(port);
            x.setReserve(port, 0);
            x.withdraw(port);
            x.setHeadroom(port, 0);
            for (int priority = 0; priority < 3; priority++) {
                x.setAlpha(port, priority, 0);
                seen.add((long) x.arrive(port, priority, Math.min(12, x.burstTank(port, priority))));
            }
        }
        for (int tick = 0; tick < 6; tick++) {
            seen.add((long) x.ticks(1));
            seen.add(x.checksum());
        }
    }

    private static void runText(SharedPacketBuffer x, List<Long> seen) {
        seen.add((long) x.run());
        seen.addAll(Script.everything(x));
        seen.add((long) x.append(';'));
        seen.add((long) x.clearText());
    }
}
