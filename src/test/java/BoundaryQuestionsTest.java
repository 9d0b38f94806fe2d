/** The boundary cases of promises 17 to 48: counters, queues, memory and predictions, sentence by sentence. */
public final class BoundaryQuestionsTest {
    private static final Answers A = new Answers();

    public static void main(String[] args) {
        poolsAndPorts();
        queues();
        losses();
        lossCause();
        counts();
        queueLengths();
        packets();
        fragments();
        freeRuns();
        stageFor();
        largestAdmissible();
        burstCapacity();
        burstCapacityRanges();
        drainTicks();
        drainTicksWithoutRate();
        equilibrium();
        equilibriumSets();
        A.end("BoundaryQuestionsTest");
    }

    private static Script at(int promise, String sentence) {
        return new Script(A, "promise " + promise + ", '" + sentence + "'");
    }

    private static void poolsAndPorts() {
        at(17, "Returns the free shared cells").play("reset(16, 2) = 64; freeShared() = 16; setHeadroom(0, 15) = 0; freeShared() = 1;"
            + "arrive(1, 0, 1) = 0; freeShared() = 0;"
            + "reset(128, 6) = 16; freeShared() = 128; setReserve(0, 64) = 0; setReserve(5, 64) = 0; freeShared() = 0");
        at(18, "Returns the size of the shared pool").play("reset(16, 2) = 64; sharedPool() = 16; setReserve(0, 16) = 0; sharedPool() = 0;"
            + "reset(128, 6) = 16; sharedPool() = 128; arrive(5, 2, 12) = 0; sharedPool() = 128");
        at(19, "Returns the free guarantee of the port; BAD_INDEX").play("freeGuarantee(0) = 0; setReserve(0, 12) = 0;"
            + "freeGuarantee(0) = 12; arrive(0, 0, 11) = 0;"
            + "freeGuarantee(0) = 1; arrive(0, 0, 1) = 1; freeGuarantee(0) = 0; arrive(0, 0, 1) = 2; freeGuarantee(0) = 0; flush(0) = 3;"
            + "freeGuarantee(0) = 12");
        at(19, "Returns the free guarantee of the port: reserve and grant are the greatest")
            .play("reset(128, 1) = 64; setReserve(0, 64) = 0; grant(0, 32) = NONE; freeGuarantee(0) = 96");
        at(19, "BAD_INDEX").busy().noSuchPort(3, "freeGuarantee(#)");
        at(20, "Returns the cells of its grant, 0 if it has none").play("grantOf(3) = 0; grant(3, 1) = NONE; grantOf(3) = 1;"
            + "grant(3, 32) = NONE; grantOf(3) = 32; withdraw(3) = 32; grantOf(3) = 0; setReserve(3, 9) = 0; grantOf(3) = 0");
        at(20, "BAD_INDEX").busy().noSuchPort(3, "grantOf(#)");
        at(28, "BAD_INDEX").busy().noSuchPort(3, "credit(#)").playUnchanged("credit(0) = 3; credit(1) = 0; credit(2) = 4");
        at(31, "BAD_INDEX").busy().noSuchPort(3, "lostCells(#)").playUnchanged("lostCells(0) = 0; lostCells(1) = 3; lostCells(2) = 0");
        at(33, "BAD_INDEX").busy().noSuchPort(3, "departed(#)").playUnchanged("departed(0) = 0; departed(1) = 1; departed(2) = 0");
    }

    private static void queues() {
        String[] calls = {"threshold", "guaranteedCells", "sharedCells", "headroomCells", "burstTank", "isPaused", "pauses"};
        for (int i = 0; i < calls.length; i++) {
            at(21 + i, "BAD_INDEX").busy().noSuchQueue(3, calls[i] + "(#)");
        }
        at(29, "BAD_INDEX").busy().noSuchQueue(3, "deficit(#)");
        at(21, "Returns the threshold of the queue: nothing is free").play("reset(16, 1) = 64; setAlpha(0, 0, 64) = 8;"
            + "threshold(0, 0) = 128; setReserve(0, 16) = 0; threshold(0, 0) = 0");
        at(22, "Returns the guaranteed cells of the queue: all, and none").play("reset(128, 1) = 64; setReserve(0, 64) = 0;"
            + "guaranteedCells(0, 0) = 0; arrive(0, 0, 12) = 0; arrive(0, 0, 12) = 1;"
            + "arrive(0, 0, 12) = 2; arrive(0, 0, 12) = 3; arrive(0, 0, 12) = 4; arrive(0, 0, 4) = 5; guaranteedCells(0, 0) = 64;"
            + "arrive(0, 0, 1) = 6; guaranteedCells(0, 0) = 64; flush(0) = 7; guaranteedCells(0, 0) = 0");
        at(23, "Returns the shared cells of the queue: all, and none").play("reset(16, 1) = 64; setBurst(0, 2, 16, 0) = 0;"
            + "sharedCells(0, 2) = 0; arrive(0, 2, 12) = 0; arrive(0, 2, 4) = 1;"
            + "sharedCells(0, 2) = 16; burstTank(0, 2) = 4; flush(0) = 2; sharedCells(0, 2) = 0");
        at(24, "Returns the headroom cells of the queue: all, and none").play("reset(16, 1) = 64; setHeadroom(0, 16) = 0;"
            + "setLossless(0, 1, true) = 0; headroomCells(0, 1) = 0; arrive(0, 1, 12) = 0;"
            + "arrive(0, 1, 4) = 1; headroomCells(0, 1) = 16; flush(0) = 2; headroomCells(0, 1) = 0");
        at(25, "Returns the content of the burst tank of the queue: full, and empty").play("setAlpha(1, 1, 0) = 8;"
            + "setBurst(1, 1, 12, 0) = 0; burstTank(1, 1) = 12; arrive(1, 1, 11) = 0;"
            + "burstTank(1, 1) = 1; arrive(1, 1, 1) = LOST; flush(1) = 1; arrive(1, 1, 1) = 1; burstTank(1, 1) = 0; burstTank(1, 0) = 0;"
            + "burstTank(0, 1) = 0");
    }

    private static void losses() {
        at(30, "POOL_EMPTY, OVER_THRESHOLD, HEADROOM_FULL, PUSHED_OUT or FLUSHED").busy().playUnchanged("losses(1, POOL_EMPTY) = 0;"
            + "losses(1, OVER_THRESHOLD) = 0; losses(1, HEADROOM_FULL) = 1; losses(1, PUSHED_OUT) = 0; losses(1, FLUSHED) = 0");
        at(30, "BAD_VALUE if cause is none of these").busy().refused("BAD_VALUE", "losses(1, GUARANTEE_FULL)", "losses(1, NOT_LOSSLESS)",
            "losses(1, PUSH_OUT_OFF)", "losses(1, NO_VICTIM)",
            "losses(1, 0)", "losses(1, 10)", "losses(1, -1)", "losses(1, -5)", "losses(1, MIN)", "losses(1, MAX)");
        at(30, "BAD_INDEX").busy().noSuchPort(3, "losses(#, 2)").noSuchPort(3, "losses(#, 9)");
        at(30, "BAD_INDEX; BAD_VALUE").busy().refused("BAD_INDEX", "losses(3, 0)", "losses(-1, 10)", "losses(3, GUARANTEE_FULL)",
            "losses(MAX, MAX)");
        at(31, "the sum of the sizes of all lost packets of the port, with removed victims and flushed packets").play("""
            reset(16, 2) = 64
            setPushOut(true) = 0
            setAlpha(0, 0, 64) = 8
            setAlpha(0, 1, 0) = 8
            setAlpha(0, 2, 64) = 8
            lostCells(0) = 0
            arrive(0, 1, 12) = LOST
            lostCells(0) = 12
            arrive(0, 2, 9) = 0
            arrive(0, 0, 8) = 1
            lostCells(0) = 21
            flush(0) = 1
            lostCells(0) = 29
            flush(0) = 0
            lostCells(0) = 29
            lostCells(1) = 0
            """);
    }

    private static void lossCause() {
        at(32, "0 for stage 4, 1 for stage 3, 2 for stage 2, 3 for stage 1").busy().playUnchanged("lossCause(0) = NO_VICTIM;"
            + "lossCause(1) = HEADROOM_FULL; lossCause(2) = OVER_THRESHOLD; lossCause(3) = GUARANTEE_FULL");
        at(32, "BAD_INDEX if level is not 0 to 3").busy().refused("BAD_INDEX", "lossCause(-1)", "lossCause(4)", "lossCause(MIN)",
            "lossCause(MAX)");
        at(32, "BAD_INDEX if level is not 0 to 3; NONE").refused("BAD_INDEX", "lossCause(-1)", "lossCause(4)")
            .playUnchanged("lossCause(0) = NONE; lossCause(3) = NONE");
        at(32, "NONE if no packet has been lost on its arrival since the last reset()").busy()
            .play("reset(48, 3) = 48; lossCause(0) = NONE; lossCause(1) = NONE; lossCause(2) = NONE; lossCause(3) = NONE");
        at(32, "NONE if no packet has been lost on its arrival: victims and flushed packets are lost later")
            .play("reset(16, 1) = 64; setPushOut(true) = 0; setAlpha(0, 2, 64) = 8; setAlpha(0, 0, 64) = 8;"
            + "arrive(0, 2, 12) = 0; arrive(0, 0, 9) = 1; losses(0, 8) = 1; flush(0) = 1; lossCause(0) = NONE; lossCause(2) = NONE;"
            + "setAlpha(0, 0, 0) = 64; arrive(0, 0, 1) = LOST; lossCause(0) = NO_VICTIM; lossCause(2) = OVER_THRESHOLD");
        at(32, "the packet that was lost last on its arrival").play("reset(16, 1) = 64; setAlpha(0, 0, 0) = 8; setAlpha(0, 1, 64) = 8;"
            + "arrive(0, 0, 1) = LOST; arrive(0, 1, 12) = 0;"
            + "lossCause(2) = OVER_THRESHOLD; arrive(0, 1, 5) = LOST; lossCause(2) = POOL_EMPTY; setPushOut(true) = 0;"
            + "setLossless(0, 0, true) = 0; lossCause(0) = PUSH_OUT_OFF;"
            + "arrive(0, 0, 4) = LOST; lossCause(0) = NO_VICTIM; lossCause(1) = HEADROOM_FULL; lossCause(2) = OVER_THRESHOLD");
    }

    private static void counts() {
        at(33, "the number of packets of the port that have departed").play("departed(0) = 0; arrive(0, 0, 4) = 0; departed(0) = 0;"
            + "ticks(1) = 1; departed(0) = 1; arrive(0, 0, 5) = 1; ticks(1) = 0; departed(0) = 1; flush(0) = 1; departed(0) = 1");
        at(34, "the number of packets that have been admitted").play("admitted() = 0; setAlpha(0, 0, 0) = 8; arrive(0, 0, 1) = LOST;"
            + "admitted() = 0; arrive(0, 1, 1) = 0; admitted() = 1; arrive(0, 0, 13) = BAD_VALUE;"
            + "admitted() = 1; flush(0) = 1; admitted() = 1");
        at(35, "Returns the time").play("time() = 0; ticks(1) = 0; time() = 1; ticks(0) = BAD_VALUE; time() = 1; ticks(20) = 0;"
            + "time() = 21");
        Script longest = at(35, "Returns the time: as many ticks as 512 calls can pass").write("t20;".repeat(30));
        for (int i = 0; i < 390; i++) {
            longest.play("run() = 0");
        }
        longest.play("time() = 234000");
    }

    private static void queueLengths() {
        at(36, "BAD_INDEX").busy().noSuchQueue(3, "queueLength(#)");
        Script all = at(36, "Returns the number of packets in the queue: none, and 128").play("reset(128, 1) = 64; setReserve(0, 64) = 0;"
            + "grant(0, 32) = NONE; setHeadroom(0, 32) = 0; setLossless(0, 1, true) = 0; queueLength(0, 1) = 0");
        for (int i = 0; i < 128; i++) {
            all.play("arrive(0, 1, 1) = " + i);
        }
        all.play("queueLength(0, 1) = 128; packetAt(0, 1, 0) = 0; packetAt(0, 1, 127) = 127; packetAt(0, 1, 128) = BAD_INDEX;"
            + "arrive(0, 1, 1) = LOST; queueLength(0, 1) = 128; flush(0) = 128; queueLength(0, 1) = 0");
    }

    private static void packets() {
        at(37, "BAD_INDEX if there is no such port, priority or index: an empty queue").busy()
            .refused("BAD_INDEX", "packetAt(0, 0, 1)", "packetAt(1, 0, 0)", "packetAt(1, 0, -1)", "packetAt(1, 0, MAX)");
        at(37, "BAD_INDEX if there is no such port, priority or index").busy().noSuchQueue(3, "packetAt(#, 0)")
            .refused("BAD_INDEX", "packetAt(0, 0, -1)", "packetAt(0, 0, 1)", "packetAt(0, 0, MIN)", "packetAt(0, 0, MAX)",
            "packetAt(3, 3, -1)").playUnchanged("packetAt(0, 0, 0) = 0; packetAt(2, 0, 0) = 4");
        at(37, "the index in the queue, 0 for the first packet").play("arrive(0, 0, 4) = 0; arrive(0, 0, 4) = 1; arrive(0, 0, 4) = 2;"
            + "packetAt(0, 0, 0) = 0; packetAt(0, 0, 2) = 2; packetAt(0, 0, 3) = BAD_INDEX; ticks(1) = 1;"
            + "packetAt(0, 0, 0) = 1; packetAt(0, 0, 1) = 2; packetAt(0, 0, 2) = BAD_INDEX; ticks(2) = 2; packetAt(0, 0, 0) = BAD_INDEX");
    }

    private static void fragments() {
        // Packets 1 and 6 are not there any more or not yet.
        at(38, "the number of a packet in the memory").busy().refused("BAD_INDEX", "fragments(1)", "fragments(6)", "fragments(-1)",
            "fragments(MIN)", "fragments(MAX)")
            .playUnchanged("fragments(0) = 1; fragments(5) = 1");
        at(39, "the number of a packet in the memory; the number of a fragment").busy().refused("BAD_INDEX", "fragmentStart(1, 0)",
            "fragmentStart(6, 0)", "fragmentStart(-1, 0)", "fragmentStart(MIN, 0)",
            "fragmentStart(MAX, 0)", "fragmentStart(0, 1)", "fragmentStart(0, -1)", "fragmentStart(0, MIN)", "fragmentStart(0, MAX)",
                "fragmentStart(1, 1)", "fragmentStart(-1, -1)")
            .playUnchanged("fragmentStart(0, 0) = 0; fragmentStart(5, 0) = 7");
        at(40, "the number of a packet in the memory; the number of a fragment").busy().refused("BAD_INDEX", "fragmentLength(1, 0)",
            "fragmentLength(6, 0)", "fragmentLength(-1, 0)", "fragmentLength(MIN, 0)",
            "fragmentLength(MAX, 0)", "fragmentLength(0, 1)", "fragmentLength(0, -1)", "fragmentLength(0, MIN)", "fragmentLength(0, MAX)",
                "fragmentLength(1, 1)", "fragmentLength(-1, -1)")
            .playUnchanged("fragmentLength(0, 0) = 7; fragmentLength(5, 0) = 2");
        String two = "reset(16, 2) = 64; setAlpha(0, 0, 64) = 8; setAlpha(1, 0, 64) = 8; arrive(0, 0, 3) = 0; arrive(1, 0, 10) = 1;"
            + "flush(0) = 1; arrive(0, 0, 6) = 2;";
        at(38, "Returns the number of its fragments").play(two).play("fragments(1) = 1; fragments(2) = 2; fragments(0) = BAD_INDEX;"
            + "fragments(3) = BAD_INDEX");
        at(39, "Returns the first cell of the fragment").play(two).play("fragmentStart(2, 0) = 0; fragmentStart(2, 1) = 13;"
            + "fragmentStart(2, 2) = BAD_INDEX; fragmentStart(2, -1) = BAD_INDEX; fragmentStart(1, 1) = BAD_INDEX");
        at(40, "Returns the number of cells of the fragment").play(two).play("fragmentLength(2, 0) = 3; fragmentLength(2, 1) = 3;"
            + "fragmentLength(2, 2) = BAD_INDEX; fragmentLength(2, -1) = BAD_INDEX; fragmentLength(1, 1) = BAD_INDEX");
        at(38, "a packet in the memory: none at all").refused("BAD_INDEX", "fragments(0)", "fragmentStart(0, 0)", "fragmentLength(0, 0)",
            "fragments(-1)", "fragmentStart(-1, 0)", "fragmentLength(-1, 0)");
        at(38, "a packet in the memory: it has departed, or was a victim, or was flushed").play("reset(16, 1) = 64; setPushOut(true) = 0;"
            + "setAlpha(0, 2, 64) = 8; setAlpha(0, 0, 64) = 8; arrive(0, 0, 4) = 0; ticks(1) = 1;"
            + "arrive(0, 2, 12) = 1; arrive(0, 0, 9) = 2; flush(0) = 1").refused("BAD_INDEX", "fragments(0)", "fragments(1)",
            "fragments(2)", "fragments(3)");
    }

    private static void freeRuns() {
        at(41, "Returns the number of free runs: one in an empty memory").playUnchanged("freeRuns() = 1; runStart(0) = 0;"
            + "runLength(0) = 64").refused("BAD_INDEX", "runStart(1)", "runLength(1)", "runStart(-1)", "runLength(-1)");
        at(41, "Returns the number of free runs: none in a full memory").play("reset(16, 1) = 64; setReserve(0, 16) = 0;"
            + "arrive(0, 0, 12) = 0; arrive(0, 0, 4) = 1; freeRuns() = 0")
            .refused("BAD_INDEX", "runStart(0)", "runLength(0)", "runStart(-1)", "runLength(-1)");
        Script most = at(41, "Returns the number of free runs: at most 64").play("reset(128, 2) = 64; setReserve(0, 64) = 0;"
            + "setReserve(1, 64) = 0");
        for (int i = 0; i < 128; i++) {
            most.play("arrive(" + i % 2 + ", 0, 1) = " + i);
        }
        most.play("freeRuns() = 0; flush(1) = 64; freeRuns() = 64; runStart(0) = 1; runStart(63) = 127; runLength(63) = 1;"
            + "runStart(64) = BAD_INDEX; runLength(64) = BAD_INDEX; flush(0) = 64; freeRuns() = 1; runLength(0) = 128");
        at(42, "the index of a free run in the order of their first cells, counted from 0").busy()
            .refused("BAD_INDEX", "runStart(2)", "runStart(-1)", "runStart(MIN)", "runStart(MAX)")
            .playUnchanged("freeRuns() = 2; runStart(0) = 9; runStart(1) = 25");
        at(43, "the index of a free run in the order of their first cells, counted from 0").busy()
            .refused("BAD_INDEX", "runLength(2)", "runLength(-1)", "runLength(MIN)", "runLength(MAX)")
            .playUnchanged("runLength(0) = 2; runLength(1) = 23");
    }

    private static void stageFor() {
        at(44, "1 to 12").playUnchanged("stageFor(0, 0, 1) = 2; stageFor(3, 2, 12) = 2");
        at(44, "1 to 12").busy().refused("BAD_VALUE", "stageFor(0, 0, 0)", "stageFor(0, 0, 13)", "stageFor(0, 0, -1)",
            "stageFor(0, 0, MIN)", "stageFor(0, 0, MAX)");
        at(44, "BAD_INDEX; BAD_VALUE").busy().noSuchQueue(3, "stageFor(#, 1)").refused("BAD_INDEX", "stageFor(3, 0, 0)",
            "stageFor(0, 3, 13)", "stageFor(-1, -1, -1)");
        at(44, "Returns the stage that would admit it, 1 to 4; LOST").play("reset(16, 1) = 64; setReserve(0, 2) = 0; setHeadroom(0, 3) = 0;"
            + "setLossless(0, 1, true) = 0; setAlpha(0, 1, 1) = 8; setPushOut(true) = 0; arrive(0, 2, 2) = 0;"
            + "setReserve(0, 4) = 2; threshold(0, 1) = 1").playUnchanged("stageFor(0, 1, 2) = 1; stageFor(0, 1, 3) = 2;"
            + "stageFor(0, 1, 4) = 3; stageFor(0, 1, 5) = 3; stageFor(0, 1, 6) = LOST; stageFor(0, 1, 12) = LOST")
            .play("setHeadroom(0, 0) = 3; threshold(0, 1) = 1").playUnchanged("stageFor(0, 1, 4) = 4; stageFor(0, 1, 5) = 4;"
            + "stageFor(0, 1, 6) = LOST");
    }

    private static void largestAdmissible() {
        at(45, "BAD_INDEX").busy().noSuchQueue(3, "largestAdmissible(#)");
        at(45, "the greatest size from 1 to 12: more would be admitted").play("reset(128, 1) = 64; setReserve(0, 64) = 0;"
            + "setAlpha(0, 0, 64) = 8").playUnchanged("largestAdmissible(0, 0) = 12");
        at(45, "the greatest size from 1 to 12: exactly 12, and 11").play("setAlpha(0, 0, 0) = 8; setReserve(0, 12) = 0")
            .playUnchanged("largestAdmissible(0, 0) = 12").play("setReserve(0, 11) = 12")
            .playUnchanged("largestAdmissible(0, 0) = 11");
        at(45, "the greatest size from 1 to 12: 1; 0 if there is none").play("setAlpha(0, 0, 0) = 8; setReserve(0, 1) = 0")
            .playUnchanged("largestAdmissible(0, 0) = 1").play("setReserve(0, 0) = 1")
            .playUnchanged("largestAdmissible(0, 0) = 0").play("arrive(0, 0, 1) = LOST");
        at(45, "0 if there is none: a full memory").play("reset(16, 1) = 64; setReserve(0, 16) = 0; arrive(0, 2, 12) = 0;"
            + "arrive(0, 2, 4) = 1").playUnchanged("largestAdmissible(0, 0) = 0; largestAdmissible(0, 2) = 0")
            .play("setPushOut(true) = 0").playUnchanged("largestAdmissible(0, 0) = 12; largestAdmissible(0, 2) = 0");
        // 5 cells by pushing out, 2 by the guarantee, 1 by headroom.
        at(45, "would be admitted: by any of the stages").play("reset(16, 1) = 64; setReserve(0, 5) = 0; setAlpha(0, 0, 0) = 8;"
            + "arrive(0, 1, 3) = 0").playUnchanged("largestAdmissible(0, 0) = 2")
            .play("setHeadroom(0, 1) = 0; setLossless(0, 0, true) = 0").playUnchanged("largestAdmissible(0, 0) = 3")
            .play("setPushOut(true) = 0").playUnchanged("largestAdmissible(0, 0) = 5");
    }

    private static void burstCapacity() {
        at(46, "until the first one would be lost: the first").play("setAlpha(0, 0, 0) = 8")
            .playUnchanged("burstCapacity(0, 0, 1) = 0; burstCapacity(0, 0, 12) = 0")
            .play("setReserve(0, 11) = 0").playUnchanged("burstCapacity(0, 0, 12) = 0; burstCapacity(0, 0, 11) = 1;"
            + "burstCapacity(0, 0, 6) = 1; burstCapacity(0, 0, 5) = 2; burstCapacity(0, 0, 1) = 11");
        at(46, "until the first one would be lost: a full memory").play("reset(16, 1) = 64; setReserve(0, 16) = 0; arrive(0, 2, 12) = 0;"
            + "arrive(0, 2, 4) = 1").playUnchanged("burstCapacity(0, 0, 1) = 0; burstCapacity(0, 2, 1) = 0");
        at(46, "how many packets of one size would be admitted: 128").play("reset(128, 1) = 64; setReserve(0, 64) = 0; grant(0, 32) = NONE;"
            + "setHeadroom(0, 32) = 0; setLossless(0, 0, true) = 0")
            .playUnchanged("burstCapacity(0, 0, 1) = 128; burstCapacity(0, 0, 12) = 10; burstCapacity(0, 1, 1) = 96;"
            + "burstCapacity(0, 1, 12) = 8");
        at(46, "push-out were off").play("reset(16, 1) = 64; setPushOut(true) = 0; setReserve(0, 16) = 0; arrive(0, 2, 12) = 0;"
            + "arrive(0, 2, 3) = 1").playUnchanged("burstCapacity(0, 0, 2) = 0; burstCapacity(0, 0, 1) = 1; stageFor(0, 0, 2) = 4");
        // With a threshold of 0 the tank pays for each cell again and again: 1, 2, 3 and 4 of 10.
        at(46, "would be admitted, one after the other: the tank empties").play("setAlpha(0, 0, 0) = 8; setBurst(0, 0, 10, 8) = 0")
            .playUnchanged("burstCapacity(0, 0, 1) = 4; burstCapacity(0, 0, 3) = 2; burstCapacity(0, 0, 4) = 1")
            .play("setBurst(0, 0, 9, 8) = 10").playUnchanged("burstCapacity(0, 0, 1) = 3; burstCapacity(0, 0, 3) = 2")
            .play("setBurst(0, 0, 8, 8) = 9").playUnchanged("burstCapacity(0, 0, 3) = 1");
    }

    private static void burstCapacityRanges() {
        at(46, "1 to 12").playUnchanged("burstCapacity(3, 2, 1) = 32; burstCapacity(3, 2, 12) = 3");
        at(46, "1 to 12").busy().refused("BAD_VALUE", "burstCapacity(0, 0, 0)", "burstCapacity(0, 0, 13)", "burstCapacity(0, 0, -1)",
            "burstCapacity(0, 0, MIN)", "burstCapacity(0, 0, MAX)");
        at(46, "BAD_INDEX; BAD_VALUE").busy().noSuchQueue(3, "burstCapacity(#, 1)").refused("BAD_INDEX", "burstCapacity(3, 0, 0)",
            "burstCapacity(0, 3, 13)", "burstCapacity(-1, -1, -1)");
    }

    private static void drainTicks() {
        at(47, "BAD_INDEX").busy().noSuchPort(3, "drainTicks(#)");
        at(47, "0 if it is empty").play("setScheduler(1, false, 0) = 4").playUnchanged("drainTicks(0) = 0; drainTicks(1) = 0;"
            + "drainTicks(3) = 0").play("arrive(0, 0, 1) = 0; flush(0) = 1").playUnchanged("drainTicks(0) = 0");
        at(47, "the number of ticks after which the port would be empty: 1, and 2").play("arrive(0, 2, 4) = 0")
            .playUnchanged("drainTicks(0) = 1").play("flush(0) = 1; arrive(0, 2, 5) = 1").playUnchanged("drainTicks(0) = 2")
            .play("flush(0) = 1; arrive(0, 2, 8) = 2").playUnchanged("drainTicks(0) = 2").play("flush(0) = 1; arrive(0, 2, 9) = 3")
            .playUnchanged("drainTicks(0) = 3");
        String slowest = "reset(128, 1) = 64; setReserve(0, 64) = 0; grant(0, 32) = NONE; setHeadroom(0, 32) = 0;"
            + "setLossless(0, 2, true) = 0; setQuantum(0, 2, 1) = 4;";
        Script slow = at(47, "the number of ticks after which the port would be empty: 128").play(slowest);
        for (int i = 0; i < 10; i++) {
            slow.play("arrive(0, 2, 12) = " + i);
        }
        slow.play("arrive(0, 2, 8) = 10; freeRuns() = 0; setScheduler(0, false, 1) = 4").playUnchanged("drainTicks(0) = 128")
            .play("setScheduler(0, true, 1) = 1").playUnchanged("drainTicks(0) = 128")
            .play("setScheduler(0, true, 16) = 1").playUnchanged("drainTicks(0) = 8").play("setScheduler(0, false, 16) = 16")
            .playUnchanged("drainTicks(0) = 8").play("ticks(7) = 9; drainTicks(0) = 1; ticks(1) = 2; drainTicks(0) = 0");
    }

    private static void drainTicksWithoutRate() {
        at(47, "NONE if it would never be empty (its rate is 0 and it has a packet that it cannot send with its credit): no credit")
            .play("setScheduler(0, false, 0) = 4; arrive(0, 0, 1) = 0").playUnchanged("drainTicks(0) = NONE")
            .play("setScheduler(0, true, 0) = 0").playUnchanged("drainTicks(0) = NONE").play("setScheduler(0, true, 1) = 0")
            .playUnchanged("drainTicks(0) = 1");
        // A victim leaves a credit of 10 behind for the two packets that have pushed it out.
        String credit = """
            reset(16, 1) = 64
            setPushOut(true) = 0
            setAlpha(0, 2, 64) = 8
            setAlpha(0, 1, 64) = 8
            setScheduler(0, false, 5) = 4
            arrive(0, 2, 12) = 0
            ticks(2) = 0
            credit(0) = 10
            arrive(0, 1, 4) = 1
            """;
        at(47, "a packet that it cannot send with its credit: the credit is enough").play(credit)
            .play("arrive(0, 1, 6) = 2; losses(0, 8) = 1; setScheduler(0, false, 0) = 5; credit(0) = 10").playUnchanged("drainTicks(0) = 1")
            .play("setScheduler(0, true, 0) = 0").playUnchanged("drainTicks(0) = 1").play("ticks(1) = 2; drainTicks(0) = 0");
        at(47, "a packet that it cannot send with its credit: one cell too many").play(credit)
            .play("arrive(0, 1, 7) = 2; losses(0, 8) = 1; setScheduler(0, false, 0) = 5; credit(0) = 10")
            .playUnchanged("drainTicks(0) = NONE")
            .play("setScheduler(0, true, 0) = 0").playUnchanged("drainTicks(0) = NONE").play("ticks(1) = 1; credit(0) = 6")
            .playUnchanged("drainTicks(0) = NONE").play("setScheduler(0, true, 1) = 0").playUnchanged("drainTicks(0) = 1");
    }

    private static void equilibrium() {
        at(48, "8 * P / (8 + A): no queue at all").playUnchanged("equilibrium(0, false) = 64; equilibrium(0, true) = 1");
        at(48, "8 * P / (8 + A): P is 0 (0 is 0 / 1)").play("setReserve(0, 64) = 0").playUnchanged("equilibrium(0, false) = 0;"
            + "equilibrium(0, true) = 1; equilibrium(4095, false) = 0; equilibrium(4095, true) = 1");
        at(48, "8 * P / (8 + A): A is 0").play("setAlpha(0, 0, 0) = 8").playUnchanged("equilibrium(1, false) = 64;"
            + "equilibrium(1, true) = 1");
        at(48, "8 * P / (8 + A): P is 1").play("setReserve(0, 63) = 0; setAlpha(0, 0, 64) = 8; setAlpha(0, 1, 1) = 8")
            .playUnchanged("equilibrium(1, false) = 1; equilibrium(1, true) = 9; equilibrium(2, false) = 8; equilibrium(2, true) = 9");
        Script most = at(48, "8 * P / (8 + A): all alphas are 64").play("reset(128, 6) = 64");
        for (int queue = 0; queue < 18; queue++) {
            most.play("setAlpha(" + queue / 3 + ", " + queue % 3 + ", 64) = 8");
        }
        // 1024 / 1160
        most.playUnchanged("equilibrium(262143, false) = 128; equilibrium(262143, true) = 145");
        at(48, "P is the size of the shared pool: also when its cells are in use").play("reset(16, 1) = 64; setAlpha(0, 1, 64) = 8;"
            + "arrive(0, 1, 12) = 0").playUnchanged("equilibrium(1, false) = 8; equilibrium(1, true) = 1");
        at(48, "as a fraction in lowest terms with a denominator above 0").play("reset(21, 1) = 64; setAlpha(0, 0, 6) = 8;"
            + "setAlpha(0, 1, 7) = 8").playUnchanged("equilibrium(1, false) = 12; equilibrium(1, true) = 1; equilibrium(2, false) = 56;"
            + "equilibrium(2, true) = 5; equilibrium(3, false) = 8; equilibrium(3, true) = 1");
    }

    private static void equilibriumSets() {
        at(48, "BAD_VALUE if queues contains a queue of a port that does not exist or is negative").busy()
            .refused("BAD_VALUE", "equilibrium(512, false)", "equilibrium(512, true)", "equilibrium(513, false)", "equilibrium(1024, true)",
            "equilibrium(1073741824, false)", "equilibrium(MAX, true)", "equilibrium(-1, false)",
                "equilibrium(-1, true)", "equilibrium(MIN, true)", "equilibrium(MIN, false)")
                    .playUnchanged("equilibrium(511, false) = 62; equilibrium(511, true) = 19");
        for (int ports = 1; ports <= 6; ports++) {
            int beyond = 1 << 3 * ports;
            at(48, "bit 3 * port + priority stands for a queue").play("reset(72, " + ports + ") = 64;"
                + "setAlpha(" + (ports - 1) + ", 2, 64) = 8")
                .playUnchanged("equilibrium(" + (beyond >> 1) + ", false) = 8; equilibrium(" + (beyond >> 1) + ", true) = 1;"
                + "equilibrium(" + (beyond >> 2) + ", false) = 36")
                .refused("BAD_VALUE", "equilibrium(" + beyond + ", false)", "equilibrium(" + (beyond + 1) + ", true)");
        }
    }
}
