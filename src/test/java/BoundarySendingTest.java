/** The boundary cases of promises 13 to 16 and of 'Ticks', with all that is said of sending, sentence by sentence. */
public final class BoundarySendingTest {
    private static final Answers A = new Answers();

    public static void main(String[] args) {
        arrive();
        ticks();
        tanks();
        pauses();
        pausesAfterSending();
        strictPriority();
        credits();
        deficits();
        turns();
        emptyQueues();
        emptyPorts();
        portEmptiedByVictims();
        flush();
        trafficRanges();
        trafficNumbers();
        A.end("BoundarySendingTest");
    }

    private static Script at(String sentence) {
        return new Script(A, "'" + sentence + "'");
    }

    private static Script at(int promise, String sentence) {
        return new Script(A, "promise " + promise + ", '" + sentence + "'");
    }

    private static void arrive() {
        at(13, "1 to 12").play("arrive(3, 2, 1) = 0; arrive(3, 2, 12) = 1; sharedCells(3, 2) = 13; fragmentLength(0, 0) = 1;"
            + "fragmentLength(1, 0) = 12");
        at(13, "1 to 12").busy().refused("BAD_VALUE", "arrive(0, 0, 0)", "arrive(0, 0, 13)", "arrive(1, 1, -1)", "arrive(2, 2, MIN)",
            "arrive(2, 2, MAX)");
        at(13, "a port; 0 to 2").busy().noSuchQueue(3, "arrive(#, 1)");
        at(13, "BAD_INDEX; BAD_VALUE").busy().refused("BAD_INDEX", "arrive(3, 0, 0)", "arrive(0, 3, 13)", "arrive(-1, -1, -1)");
        at(13, "A call that reports an error changes nothing: not the loss that was last").play("reset(16, 1) = 64; setAlpha(0, 0, 0) = 8;"
            + "arrive(0, 0, 1) = LOST;"
            + "setPushOut(true) = 0").refused("BAD_VALUE", "arrive(0, 0, 13)").play("lossCause(0) = PUSH_OUT_OFF; losses(0, 3) = 1;"
            + "lostCells(0) = 1");
    }

    private static void ticks() {
        at(14, "the number of ticks, 1 to 20").play("ticks(1) = 0; time() = 1; ticks(20) = 0; time() = 21; ticks(19) = 0; time() = 40;"
            + "ticks(2) = 0; time() = 42");
        at(14, "the number of ticks, 1 to 20").busy().refused("BAD_VALUE", "ticks(0)", "ticks(21)", "ticks(-1)", "ticks(MIN)",
            "ticks(MAX)");
        at(14, "Returns the number of packets that depart: none").play("ticks(20) = 0; departed(0) = 0; setScheduler(0, false, 0) = 4;"
            + "arrive(0, 0, 1) = 0; ticks(20) = 0");
        Script all = at(14, "Returns the number of packets that depart: all of a full memory")
            .play("reset(128, 2) = 64; setReserve(0, 64) = 0; setReserve(1, 64) = 0;"
            + "setScheduler(0, false, 16) = 4; setScheduler(1, true, 16) = 4");
        for (int i = 0; i < 128; i++) {
            all.play("arrive(" + i % 2 + ", 1, 1) = " + i);
        }
        all.play("freeRuns() = 0; ticks(3) = 96; departed(0) = 48; departed(1) = 48; ticks(1) = 32; credit(0) = 0; freeRuns() = 1;"
            + "runLength(0) = 128; ticks(1) = 0");
    }

    private static void tanks() {
        String ten = "setAlpha(0, 0, 0) = 8; setBurst(0, 0, 10, 4) = 0; ";
        at("the content of each burst tank increases by its refill, but not above its capacity: to one below it").play(ten)
            .play("arrive(0, 0, 5) = 0; burstTank(0, 0) = 5; ticks(1) = 0; burstTank(0, 0) = 9");
        at("the content of each burst tank increases by its refill, but not above its capacity: to the capacity").play(ten)
            .play("arrive(0, 0, 4) = 0; burstTank(0, 0) = 6; ticks(1) = 1; burstTank(0, 0) = 10");
        at("the content of each burst tank increases by its refill, but not above its capacity: one beyond it").play(ten)
            .play("arrive(0, 0, 3) = 0; burstTank(0, 0) = 7; ticks(1) = 1; burstTank(0, 0) = 10");
        at("but not above its capacity: a full tank").play(ten).play("ticks(1) = 0; burstTank(0, 0) = 10; ticks(20) = 0;"
            + "burstTank(0, 0) = 10");
        at("but not above its capacity: a capacity of 0").play("setBurst(3, 2, 0, 8) = 0; ticks(1) = 0; burstTank(3, 2) = 0; ticks(20) = 0;"
            + "burstTank(3, 2) = 0");
        at("increases by its refill: a refill of 0").play("setAlpha(3, 2, 0) = 8; setBurst(3, 2, 12, 0) = 0; arrive(3, 2, 12) = 0;"
            + "ticks(20) = 1; burstTank(3, 2) = 0");
        at("increases by its refill: the greatest one, from nothing to 32").play("setAlpha(3, 2, 0) = 8; setBurst(3, 2, 32, 8) = 0;"
            + "setScheduler(3, false, 0) = 4;"
            + "arrive(3, 2, 1) = 0; arrive(3, 2, 12) = 1; arrive(3, 2, 5) = 2; burstTank(3, 2) = 0; ticks(1) = 0; burstTank(3, 2) = 8;"
            + "ticks(2) = 0; burstTank(3, 2) = 24; ticks(1) = 0; burstTank(3, 2) = 32; ticks(1) = 0; burstTank(3, 2) = 32");
    }

    private static void pauses() {
        // The packet is flushed, and so the queue has neither headroom cells nor shared ones, but is still paused.
        String paused = """
            reset(32, 2) = 64
            setHeadroom(0, 4) = 0
            setLossless(0, 0, true) = 0
            setAlpha(0, 0, 0) = 8
            arrive(0, 0, 4) = 0
            flush(0) = 1
            isPaused(0, 0) = 1
            """;
        at("whose shared cells plus 2 are at most its threshold: none").play(paused).play("""
            setAlpha(0, 0, 1) = 0
            setReserve(1, 13) = 0
            threshold(0, 0) = 1
            ticks(20) = 0
            isPaused(0, 0) = 1
            setReserve(1, 12) = 13
            threshold(0, 0) = 2
            isPaused(0, 0) = 1
            ticks(1) = 0
            isPaused(0, 0) = 0
            pauses(0, 0) = 1
            """);
        at("each paused queue that has no headroom cells, and whose shared cells plus 2 are at most its threshold").play("""
            reset(32, 1) = 64
            setHeadroom(0, 4) = 0
            setLossless(0, 0, true) = 0
            setScheduler(0, false, 0) = 4
            arrive(0, 0, 3) = 0
            setAlpha(0, 0, 0) = 8
            arrive(0, 0, 1) = 1
            headroomCells(0, 0) = 1
            setAlpha(0, 0, 64) = 0
            ticks(20) = 0
            isPaused(0, 0) = 1
            setAlpha(0, 0, 0) = 64
            setScheduler(0, false, 3) = 0
            ticks(1) = 1
            headroomCells(0, 0) = 0
            sharedCells(0, 0) = 1
            isPaused(0, 0) = 1
            setScheduler(0, false, 0) = 3
            setAlpha(0, 0, 1) = 0
            setReserve(0, 4) = 0
            threshold(0, 0) = 2
            ticks(20) = 0
            isPaused(0, 0) = 1
            setReserve(0, 3) = 4
            threshold(0, 0) = 3
            ticks(1) = 0
            isPaused(0, 0) = 0
            """);
        at(27, "how often the queue has become paused (not counted if it was paused already)").play(paused).play("""
            arrive(0, 0, 1) = 1
            arrive(0, 0, 1) = 2
            pauses(0, 0) = 1
            flush(0) = 2
            setAlpha(0, 0, 64) = 0
            ticks(1) = 0
            isPaused(0, 0) = 0
            ticks(20) = 0
            pauses(0, 0) = 1
            setAlpha(0, 0, 0) = 64
            arrive(0, 0, 1) = 3
            pauses(0, 0) = 2
            isPaused(0, 0) = 1
            """);
    }

    private static void pausesAfterSending() {
        at("each paused queue .. is not paused any more: after the packets of the same tick").play("""
            setHeadroom(0, 4) = 0
            setLossless(0, 0, true) = 0
            setAlpha(0, 0, 0) = 8
            arrive(0, 0, 4) = 0
            setAlpha(0, 0, 8) = 0
            ticks(1) = 1
            isPaused(0, 0) = 0
            """);
        at("each paused queue .. is not paused any more: after the packets of a later port").play("""
            reset(32, 2) = 64
            setHeadroom(0, 2) = 0
            setLossless(0, 0, true) = 0
            setAlpha(0, 0, 0) = 8
            arrive(0, 0, 2) = 0
            flush(0) = 1
            setAlpha(0, 0, 1) = 0
            setAlpha(1, 0, 64) = 8
            setScheduler(1, false, 0) = 4
            arrive(1, 0, 3) = 1
            arrive(1, 0, 12) = 2
            threshold(0, 0) = 1
            ticks(1) = 0
            isPaused(0, 0) = 1
            setScheduler(1, false, 3) = 0
            ticks(1) = 1
            threshold(0, 0) = 2
            isPaused(0, 0) = 0
            """);
    }

    private static void strictPriority() {
        at("has at most as many cells as the credit: as many").play("setScheduler(0, false, 3) = 4; arrive(0, 1, 6) = 0;"
            + "arrive(0, 1, 1) = 1; ticks(1) = 0; credit(0) = 3; ticks(1) = 1; credit(0) = 0; queueLength(0, 1) = 1; ticks(1) = 1");
        at("has at most as many cells as the credit: one more").play("setScheduler(0, false, 3) = 4; arrive(0, 1, 7) = 0;"
            + "arrive(0, 1, 1) = 1; ticks(2) = 0; credit(0) = 6; ticks(1) = 2; credit(0) = 0");
        at("the first packet of the non-empty queue with the highest priority").play("setScheduler(0, false, 4) = 4; arrive(0, 2, 1) = 0;"
            + "arrive(0, 1, 5) = 1;"
            + "ticks(1) = 0; credit(0) = 4; arrive(0, 0, 8) = 2; ticks(1) = 1; queueLength(0, 0) = 0; credit(0) = 0; ticks(1) = 0;"
            + "credit(0) = 4; ticks(1) = 2; credit(0) = 0; departed(0) = 3");
        at("while the first packet of the non-empty queue with the highest priority: as many as the credit allows")
            .play("setScheduler(0, false, 16) = 4; arrive(0, 0, 12) = 0; arrive(0, 1, 3) = 1; arrive(0, 2, 1) = 2;"
            + "arrive(0, 2, 1) = 3; ticks(1) = 3; queueLength(0, 2) = 1; credit(0) = 0");
    }

    private static void credits() {
        at("the credit of the port increases by its rate if the port has packets").play("setScheduler(2, false, 16) = 4; ticks(20) = 0;"
            + "credit(2) = 0;"
            + "setScheduler(2, false, 1) = 16; arrive(2, 0, 12) = 0; credit(2) = 0; ticks(1) = 0; credit(2) = 1; ticks(10) = 0;"
            + "credit(2) = 11; ticks(1) = 1; credit(2) = 0; ticks(1) = 0; credit(2) = 0");
        at("the credit of the port increases by its rate: 16").play("setScheduler(2, false, 16) = 4; arrive(2, 0, 12) = 0;"
            + "arrive(2, 0, 12) = 1; ticks(1) = 1; credit(2) = 4; ticks(1) = 1; credit(2) = 0");
        at("the credit of the port increases by its rate: 0").play("arrive(2, 0, 12) = 0; ticks(2) = 0; credit(2) = 8;"
            + "setScheduler(2, false, 0) = 4; ticks(20) = 0;"
            + "credit(2) = 8; setScheduler(2, true, 0) = 0; ticks(20) = 0; credit(2) = 8; deficit(2, 0) = 12");
    }

    private static void deficits() {
        String five = "setQuantum(0, 0, 5) = 4; setQuantum(0, 1, 5) = 4; setScheduler(0, true, 5) = 4;";
        at("if the first packet of the queue has more cells than the deficit, the turn goes on: as many").play(five)
            .play("arrive(0, 0, 5) = 0; arrive(0, 1, 5) = 1;"
            + "ticks(1) = 1; queueLength(0, 0) = 0; queueLength(0, 1) = 1; deficit(0, 1) = 5; credit(0) = 0");
        at("if the first packet of the queue has more cells than the deficit, the turn goes on: one more").play(five)
            .play("arrive(0, 0, 6) = 0; arrive(0, 1, 5) = 1;"
            + "ticks(1) = 1; queueLength(0, 0) = 1; queueLength(0, 1) = 0; deficit(0, 0) = 10; credit(0) = 0");
        at("if it has more cells than the credit, sending ends for this tick: as many").play(five)
            .play("arrive(0, 0, 5) = 0; arrive(0, 0, 5) = 1; ticks(1) = 1; deficit(0, 0) = 5; credit(0) = 0; queueLength(0, 0) = 1");
        at("if it has more cells than the credit, sending ends for this tick: one more").play(five)
            .play("setScheduler(0, true, 4) = 5; arrive(0, 0, 5) = 0;"
            + "arrive(0, 1, 4) = 1; ticks(1) = 0; deficit(0, 0) = 5; deficit(0, 1) = 0; credit(0) = 4; queueLength(0, 1) = 1; ticks(1) = 1;"
            + "credit(0) = 3; deficit(0, 0) = 0; deficit(0, 1) = 5");
        at("it departs, and the deficit and the credit decrease by its size").play("setQuantum(0, 1, 16) = 4;"
            + "setScheduler(0, true, 16) = 4; arrive(0, 1, 12) = 0;"
            + "arrive(0, 1, 3) = 1; arrive(0, 1, 1) = 2; arrive(0, 1, 1) = 3; ticks(1) = 3; deficit(0, 1) = 16; credit(0) = 0;"
            + "queueLength(0, 1) = 1");
        at("the deficit of the queue increases by its quantum, and the flag is cleared: only once at a turn")
            .play("setScheduler(0, true, 1) = 4;"
            + "arrive(0, 1, 4) = 0; ticks(1) = 0; deficit(0, 1) = 4; ticks(2) = 0; deficit(0, 1) = 4; credit(0) = 3; arrive(0, 1, 12) = 1;"
            + "ticks(1) = 1; deficit(0, 1) = 12; credit(0) = 0");
    }

    private static void turns() {
        String eight = "setScheduler(0, true, 16) = 4; arrive(0, 0, 8) = 0; arrive(0, 2, 8) = 1;";
        at("it changes from 0 to 1, from 1 to 2 or from 2 to 0, and that the flag is set").play(eight)
            .play("ticks(1) = 2; credit(0) = 0; departed(0) = 2");
        at("or from 2 to 0: the credit ends in the second round").play(eight).play("setScheduler(0, true, 15) = 16; ticks(1) = 1;"
            + "credit(0) = 7; deficit(0, 0) = 0; deficit(0, 2) = 8; queueLength(0, 2) = 1; ticks(1) = 1; credit(0) = 0");
        at("or from 2 to 0: as many rounds as a packet has cells").play("setScheduler(0, true, 1) = 4; setQuantum(0, 2, 1) = 4;"
            + "arrive(0, 2, 12) = 0; ticks(1) = 0;"
            + "deficit(0, 2) = 12; credit(0) = 1; ticks(10) = 0; deficit(0, 2) = 12; ticks(1) = 1; deficit(0, 2) = 0; credit(0) = 0");
        at("if the queue at the turn is empty, the turn goes on").play("setScheduler(0, true, 2) = 4; arrive(0, 1, 2) = 0;"
            + "arrive(0, 2, 2) = 1; ticks(1) = 1;"
            + "queueLength(0, 1) = 0; deficit(0, 2) = 4; arrive(0, 1, 2) = 2; arrive(0, 0, 2) = 3; ticks(1) = 1; queueLength(0, 2) = 0;"
            + "deficit(0, 0) = 4; ticks(1) = 1; queueLength(0, 0) = 0; queueLength(0, 1) = 1");
        at("As long as the port has packets, the following is repeated").play("setScheduler(0, true, 16) = 4; arrive(0, 0, 1) = 0;"
            + "arrive(0, 1, 1) = 1; arrive(0, 2, 1) = 2;"
            + "ticks(1) = 3; credit(0) = 0; ticks(20) = 0; credit(0) = 0; deficit(0, 0) = 0; deficit(0, 1) = 0; deficit(0, 2) = 0");
    }

    private static void emptyQueues() {
        String sentence = "Whenever a queue has become empty, for any reason, its deficit is 0: ";
        at(sentence + "its last packet departs in its turn").play("setScheduler(0, true, 1) = 4; setQuantum(0, 0, 16) = 4;"
            + "arrive(0, 0, 1) = 0; arrive(0, 1, 12) = 1;"
            + "ticks(1) = 1; deficit(0, 0) = 0; deficit(0, 1) = 12; arrive(0, 0, 1) = 2; deficit(0, 0) = 0");
        at(sentence + "but not while it has a packet").play("setScheduler(0, true, 1) = 4; setQuantum(0, 0, 16) = 4; arrive(0, 0, 1) = 0;"
            + "arrive(0, 0, 1) = 1; ticks(1) = 1; deficit(0, 0) = 15");
        at(sentence + "its last packet departs by strict priority").play("setScheduler(0, true, 1) = 4; arrive(0, 0, 3) = 0; ticks(1) = 0;"
            + "deficit(0, 0) = 4;"
            + "arrive(0, 1, 5) = 1; setScheduler(0, false, 2) = 1; ticks(1) = 1; deficit(0, 0) = 0; credit(0) = 0; queueLength(0, 1) = 1");
        at(sentence + "it is flushed").play("setScheduler(0, true, 1) = 4; arrive(0, 0, 12) = 0; arrive(0, 1, 12) = 1;"
            + "arrive(0, 2, 12) = 2; ticks(1) = 0;"
            + "deficit(0, 0) = 12; deficit(0, 1) = 8; deficit(0, 2) = 8; flush(0) = 3; deficit(0, 0) = 0; deficit(0, 1) = 0;"
            + "deficit(0, 2) = 0");
        // The turn stays at priority 2 with its flag cleared: a new packet there has to wait for the next turn.
        at(sentence + "its last packet is removed as a victim").play("""
            reset(16, 1) = 64
            setPushOut(true) = 0
            setAlpha(0, 2, 64) = 8
            setAlpha(0, 0, 64) = 8
            setScheduler(0, true, 1) = 4
            arrive(0, 2, 12) = 0
            ticks(1) = 0
            deficit(0, 2) = 12
            arrive(0, 1, 2) = 1
            arrive(0, 0, 4) = 2
            losses(0, 8) = 1
            deficit(0, 2) = 0
            credit(0) = 1
            arrive(0, 2, 1) = 3
            ticks(1) = 0
            credit(0) = 2
            deficit(0, 2) = 0
            deficit(0, 0) = 4
            """);
        at(sentence + "reset").play("setScheduler(0, true, 1) = 4; arrive(0, 0, 12) = 0; ticks(1) = 0; deficit(0, 0) = 12;"
            + "reset(64, 4) = 64; deficit(0, 0) = 0");
    }

    private static void emptyPorts() {
        String sentence = "Whenever a port has no packets any more, for any reason, its credit is 0, its turn is 0 and its flag is set: ";
        // Two packets of 4 cells and a credit of 4: the one at the turn departs.
        String next = "setScheduler(0, true, 4) = 16; credit(0) = 0; arrive(0, 2, 4) = 1; arrive(0, 0, 4) = 2; ticks(1) = 1;"
            + "queueLength(0, 0) = 0; queueLength(0, 2) = 1; deficit(0, 2) = 4; credit(0) = 0";
        at(sentence + "its last packet departs").play("setScheduler(0, true, 16) = 4; arrive(0, 2, 3) = 0; ticks(1) = 1; credit(0) = 0")
            .play(next);
        at(sentence + "its last packet departs from the queue at turn 0").play("setScheduler(0, true, 16) = 4; arrive(0, 0, 3) = 0;"
            + "ticks(1) = 1; credit(0) = 0").play(next);
        at(sentence + "it is flushed").play("setScheduler(0, true, 1) = 4; arrive(0, 2, 3) = 0; ticks(1) = 0; credit(0) = 1; flush(0) = 1;"
            + "setScheduler(0, true, 16) = 1")
            .play(next);
        at(sentence + "it is flushed at turn 0").play("setScheduler(0, true, 1) = 4; arrive(0, 0, 3) = 0; ticks(1) = 0; credit(0) = 1;"
            + "flush(0) = 1; setScheduler(0, true, 16) = 1").play(next);
        at(sentence + "its last packet departs by strict priority").play("setScheduler(0, true, 1) = 4; arrive(0, 2, 3) = 0; ticks(1) = 0;"
            + "deficit(0, 2) = 4; setScheduler(0, false, 16) = 1; ticks(1) = 1; credit(0) = 0").play(next);
        at(sentence + "not while it has a packet").play("setScheduler(0, true, 8) = 4; arrive(0, 0, 1) = 0; arrive(0, 1, 12) = 1;"
            + "ticks(1) = 1; credit(0) = 7; deficit(0, 1) = 12; arrive(0, 0, 1) = 2; ticks(1) = 2; credit(0) = 0; departed(0) = 3");
        at(sentence + "no other port").play("arrive(0, 0, 12) = 0; arrive(1, 0, 2) = 1; ticks(1) = 1; credit(0) = 4; credit(1) = 0;"
            + "flush(1) = 0; credit(0) = 4");
    }

    private static void portEmptiedByVictims() {
        String only = """
            reset(16, 1) = 64
            setPushOut(true) = 0
            setAlpha(0, 1, 64) = 8
            setAlpha(0, 0, 64) = 8
            setScheduler(0, true, 1) = 4
            arrive(0, 1, 12) = 0
            ticks(1) = 0
            credit(0) = 1
            deficit(0, 1) = 12
            """;
        String sentence = "also when victims that are removed for an arriving packet were its only packets: ";
        at(sentence + "credit").play(only).play("arrive(0, 0, 5) = 1; losses(0, 8) = 1; credit(0) = 0; deficit(0, 1) = 0; ticks(1) = 0;"
            + "credit(0) = 1");
        at(sentence + "turn and flag").play(only).play("arrive(0, 0, 5) = 1; arrive(0, 1, 4) = 2; setQuantum(0, 0, 5) = 4;"
            + "setScheduler(0, true, 5) = 1; ticks(1) = 1; queueLength(0, 0) = 0; queueLength(0, 1) = 1; credit(0) = 0; deficit(0, 1) = 4");
        at(sentence + "several").play("reset(16, 1) = 64; setPushOut(true) = 0; setAlpha(0, 1, 64) = 8; setAlpha(0, 2, 64) = 8;"
            + "setAlpha(0, 0, 64) = 8;"
            + "setScheduler(0, false, 3) = 4; arrive(0, 1, 8) = 0; arrive(0, 2, 6) = 1; ticks(2) = 0; credit(0) = 6; arrive(0, 0, 12) = 2;"
            + "losses(0, 8) = 2; credit(0) = 0; queueLength(0, 1) = 0; queueLength(0, 2) = 0; ticks(1) = 0; credit(0) = 3");
        at(sentence + "a packet of the arriving one's priority stays").play("reset(16, 1) = 64; setPushOut(true) = 0;"
            + "setAlpha(0, 1, 64) = 8; setAlpha(0, 0, 64) = 8;"
            + "setScheduler(0, false, 3) = 4; arrive(0, 1, 8) = 0; arrive(0, 0, 7) = 1; ticks(2) = 0; credit(0) = 6; arrive(0, 0, 2) = 2;"
            + "losses(0, 8) = 1; credit(0) = 6");
        at(sentence + "a packet that is lost removes none").play(only).play("setAlpha(0, 0, 0) = 64; arrive(0, 0, 5) = LOST; credit(0) = 1;"
            + "deficit(0, 1) = 12; queueLength(0, 1) = 1");
    }

    private static void flush() {
        at(15, "Removes all packets of a port: there is none").busy().play("flush(1) = 1").playUnchanged("flush(1) = 0");
        Script full = at(15, "Removes all packets of a port: half of a full memory").play("reset(128, 2) = 64; setReserve(0, 64) = 0;"
            + "setReserve(1, 64) = 0");
        for (int i = 0; i < 128; i++) {
            full.play("arrive(" + i / 64 + ", " + i % 3 + ", 1) = " + i);
        }
        full.play("freeRuns() = 0; flush(0) = 64; losses(0, 9) = 64; lostCells(0) = 64; losses(1, 9) = 0; freeRuns() = 1; runStart(0) = 0;"
            + "runLength(0) = 64;"
            + "queueLength(0, 0) = 0; queueLength(1, 0) = 21; flush(1) = 64; runLength(0) = 128; flush(0) = 0; losses(0, 9) = 64;"
            + "freeGuarantee(0) = 64");
        at(15, "Each one is counted as a loss of the port under FLUSHED").play("arrive(2, 0, 12) = 0; arrive(2, 1, 1) = 1;"
            + "arrive(2, 2, 5) = 2; flush(2) = 3; losses(2, 9) = 3;"
            + "losses(2, 8) = 0; lostCells(2) = 18; departed(2) = 0; lossCause(0) = NONE");
        at(15, "a port").busy().noSuchPort(3, "flush(#)");
    }

    private static void trafficRanges() {
        String lossy = "reset(16, 1) = 64; setAlpha(0, 0, 0) = 8; setAlpha(0, 1, 0) = 8; setAlpha(0, 2, 0) = 8;";
        at(16, "the number of ticks, 1 to 16; the number of arrivals before each tick, 1 to 3").play(lossy)
            .play("traffic(5, 1, 1) = 1; time() = 1;"
            + "traffic(5, 16, 1) = 16; time() = 17; traffic(5, 1, 3) = 3; time() = 18; traffic(5, 16, 3) = 48; time() = 34;"
            + "losses(0, 3) = 68; admitted() = 0");
        at(16, "the number of ticks, 1 to 16").busy().refused("BAD_VALUE", "traffic(5, 0, 1)", "traffic(5, 17, 1)", "traffic(5, -1, 1)",
            "traffic(5, MIN, 1)", "traffic(5, MAX, 1)");
        at(16, "the number of arrivals before each tick, 1 to 3").busy()
            .refused("BAD_VALUE", "traffic(5, 1, 0)", "traffic(5, 1, 4)", "traffic(5, 1, -1)", "traffic(5, 1, MIN)", "traffic(5, 1, MAX)");
        at(16, "the seed at first, 0 to 2147483647").busy().refused("BAD_VALUE", "traffic(-1, 1, 1)", "traffic(MIN, 1, 1)",
            "traffic(-1, 0, 0)");
        at(16, "Returns the number of arriving packets that are lost: none").play("traffic(0, 1, 1) = 0; losses(0, 3) = 0");
        at(16, "Returns the number of arriving packets that are lost: no victims").play("""
            reset(16, 1) = 64
            setPushOut(true) = 0
            setAlpha(0, 2, 64) = 8
            setScheduler(0, false, 0) = 4
            arrive(0, 2, 8) = 0
            arrive(0, 2, 8) = 1
            traffic(0, 1, 1) = 0
            losses(0, 8) = 1
            packetAt(0, 0, 0) = 2
            """);
    }

    /** What traffic() says, from the numbers of the document, with arrive() and ticks() on another object. */
    private static void trafficByHand(int ports, int seed, int n, int load) {
        String start = "reset(40, " + ports + ") = 64; setPushOut(true) = 0; setReserve(0, 6) = 0;";
        SharedPacketBuffer x = new SharedPacketBuffer();
        x.reset(40, ports);
        x.setPushOut(true);
        x.setReserve(0, 6);
        Script hand = at(16, "Each tick is preceded by arrivals").play(start);
        long s = seed;
        int lost = 0;
        for (int tick = 0; tick < n; tick++) {
            for (int arrival = 0; arrival < load; arrival++) {
                s = (s * 1103515245L + 12345L) % 2147483648L;
                long d = s / 65536L;
                String call = d % ports + ", " + d / 8 % 3 + ", " + (d / 32 % 12 + 1);
                int packet = x.arrive((int) (d % ports), (int) (d / 8 % 3), (int) (d / 32 % 12 + 1));
                lost += packet == SharedPacketBuffer.LOST ? 1 : 0;
                hand.play("arrive(" + call + ") = " + packet);
            }
            hand.play("ticks(1) = " + x.ticks(1));
        }
        at(16, "Each tick is preceded by arrivals").play(start).play("traffic(" + seed + ", " + n + ", " + load + ") = " + lost)
            .sameAs(hand);
    }

    private static void trafficNumbers() {
        for (int ports = 1; ports <= 6; ports++) {
            trafficByHand(ports, 0, 16, 3);
            trafficByHand(ports, 2147483647, 16, 3);
            trafficByHand(ports, 1, 16, 1);
            trafficByHand(ports, 2147483646, 1, 3);
        }
        // s = 12345, d = 0.
        at(16, "the seed at first, 0 to 2147483647: 0").play("setScheduler(0, false, 0) = 4; traffic(0, 1, 1) = 0; packetAt(0, 0, 0) = 0;"
            + "fragmentLength(0, 0) = 1");
        // s = 1043980748 after a wrap-around modulo 2147483648, d = 15929: 15929 modulo 4, 1991 modulo 3, 497 modulo 12 + 1.
        at(16, "the seed at first, 0 to 2147483647: 2147483647").play("setScheduler(1, false, 0) = 4; traffic(MAX, 1, 1) = 0;"
            + "packetAt(1, 2, 0) = 0; fragmentLength(0, 0) = 6");
        at(16, "the port d modulo the number of ports").play("reset(64, 1) = 64; setScheduler(0, false, 0) = 4; traffic(MAX, 1, 1) = 0;"
            + "packetAt(0, 2, 0) = 0");
        at(16, "the port d modulo the number of ports").play("reset(64, 6) = 64; setScheduler(5, false, 0) = 4; traffic(MAX, 1, 1) = 0;"
            + "packetAt(5, 2, 0) = 0");
    }
}
