/** The boundary cases of 'Ports, queues, cells', 'Pools', 'Admission', 'Releasing cells' and 'Placement', sentence by sentence. */
public final class BoundaryAdmissionTest {
    private static final Answers A = new Answers();
    private static final String[] OF_PORT = {"setReserve(#, 0)", "setHeadroom(#, 0)", "setScheduler(#, false, 4)", "grant(#, 1)",
        "withdraw(#)",
        "flush(#)", "freeGuarantee(#)", "grantOf(#)", "credit(#)", "losses(#, 2)", "lostCells(#)", "departed(#)", "drainTicks(#)"};
    private static final String[] OF_QUEUE = {"setAlpha(#, 8)", "setBurst(#, 0, 0)", "setLossless(#, true)", "setQuantum(#, 4)",
        "arrive(#, 1)",
        "threshold(#)", "guaranteedCells(#)", "sharedCells(#)", "headroomCells(#)", "burstTank(#)", "isPaused(#)", "pauses(#)",
            "deficit(#)",
        "queueLength(#)", "packetAt(#, 0)", "stageFor(#, 1)", "largestAdmissible(#)", "burstCapacity(#, 1)"};

    public static void main(String[] args) {
        ports();
        cells();
        pools();
        threshold();
        stageOne();
        poolOfStageTwo();
        thresholdOfStageTwo();
        tankOfStageTwo();
        stageThree();
        pushOutOff();
        victims();
        victimsInOrder();
        victimsToTheCell();
        lossCodes();
        releasing();
        bestFit();
        longestRun();
        placementOfVictims();
        A.end("BoundaryAdmissionTest");
    }

    private static Script at(String sentence) {
        return new Script(A, "'" + sentence + "'");
    }

    private static void ports() {
        for (int ports = 1; ports <= 6; ports++) {
            Script s = at("There are 1 to 6 ports, numbered from 0").play("reset(64, " + ports + ") = 64");
            for (String call : OF_PORT) {
                s.answersAt(call, "0", ports - 1 + "").noSuchPort(ports, call);
            }
            for (String call : OF_QUEUE) {
                s.noSuchQueue(ports, call);
            }
        }
        Script each = at("Each pair of a port and a priority has a queue of packets").play("reset(128, 6) = 64");
        for (int queue = 0; queue < 18; queue++) {
            each.play("arrive(" + queue / 3 + ", " + queue % 3 + ", 1) = " + queue);
        }
        for (int queue = 0; queue < 18; queue++) {
            String of = queue / 3 + ", " + queue % 3;
            each.play("queueLength(" + of + ") = 1; packetAt(" + of + ", 0) = " + queue + "; sharedCells(" + of + ") = 1");
        }
    }

    private static void cells() {
        at("The memory has 16 to 128 cells, numbered from 0: the last of 16").play("""
            reset(16, 1) = 64
            setReserve(0, 16) = 0
            arrive(0, 0, 12) = 0
            arrive(0, 0, 3) = 1
            runStart(0) = 15
            runLength(0) = 1
            arrive(0, 0, 1) = 2
            fragmentStart(2, 0) = 15
            freeRuns() = 0
            arrive(0, 0, 1) = LOST
            """);
        Script all = at("The memory has 16 to 128 cells, numbered from 0: the last of 128")
            .play("reset(128, 2) = 64; setReserve(0, 64) = 0; setReserve(1, 64) = 0");
        for (int i = 0; i < 10; i++) {
            all.play("arrive(" + i / 5 + ", 1, 12) = " + i);
        }
        all.play("arrive(0, 1, 4) = 10; fragmentStart(10, 0) = 120; arrive(1, 1, 3) = 11; runStart(0) = 127; runLength(0) = 1;"
            + "arrive(1, 2, 1) = 12;"
            + "fragmentStart(12, 0) = 127; fragmentLength(12, 0) = 1; freeRuns() = 0; arrive(0, 0, 1) = LOST; arrive(1, 0, 1) = LOST");
        at("A packet has a size from 1 to 12 and occupies as many cells").play("""
            arrive(0, 0, 1) = 0
            runLength(0) = 63
            arrive(0, 0, 12) = 1
            runStart(0) = 13
            runLength(0) = 51
            freeShared() = 51
            sharedCells(0, 0) = 13
            """).refused("BAD_VALUE", "arrive(0, 0, 0)", "arrive(0, 0, 13)");
        at("Admitted packets are numbered from 0 in the order of their admission").play("setAlpha(1, 0, 0) = 8; arrive(1, 0, 1) = LOST;"
            + "arrive(3, 2, 1) = 0;"
            + "arrive(1, 0, 1) = LOST; arrive(0, 0, 1) = 1; flush(0) = 1; arrive(0, 0, 1) = 2; ticks(1) = 2; arrive(2, 1, 1) = 3");
    }

    private static void pools() {
        at("The size of the shared pool is the number of cells of the memory minus the guarantees and headrooms of all ports: nothing is left").play("""
            reset(16, 2) = 64
            setReserve(0, 5) = 0
            setHeadroom(0, 4) = 0
            setReserve(1, 3) = 0
            setHeadroom(1, 2) = 0
            sharedPool() = 2
            grant(1, 2) = NONE
            sharedPool() = 0
            freeShared() = 0
            setAlpha(0, 0, 64) = 8
            threshold(0, 0) = 0
            """).refused("NO_ROOM", "setReserve(0, 6)", "setReserve(1, 4)", "setHeadroom(0, 5)", "setHeadroom(1, 3)", "grant(1, 3)", "grant(0, 1)")
            .play("stageFor(0, 0, 5) = 1; stageFor(0, 0, 6) = LOST; setHeadroom(0, 3) = 4; sharedPool() = 1; freeShared() = 1;"
            + "threshold(0, 0) = 8; stageFor(0, 0, 6) = 2; stageFor(0, 0, 7) = LOST");
        at("The free shared cells are the size of the shared pool minus all cells counted as shared: none is free").play("""
            reset(16, 2) = 64
            setReserve(1, 4) = 0
            setAlpha(0, 1, 64) = 8
            setBurst(0, 1, 4, 0) = 0
            arrive(0, 1, 11) = 0
            freeShared() = 1
            arrive(0, 1, 1) = 1
            freeShared() = 0
            sharedPool() = 12
            sharedCells(0, 1) = 12
            arrive(1, 1, 4) = 2
            freeShared() = 0
            """);
        at("The free guarantee of a port is its guarantee minus the guaranteed cells of its queues").play("""
            setReserve(0, 3) = 0
            grant(0, 4) = NONE
            arrive(0, 0, 3) = 0
            arrive(0, 1, 3) = 1
            freeGuarantee(0) = 1
            arrive(0, 2, 2) = 2
            freeGuarantee(0) = 0
            guaranteedCells(0, 2) = 1
            sharedCells(0, 2) = 1
            arrive(0, 2, 2) = 3
            freeGuarantee(0) = 0
            guaranteedCells(0, 2) = 1
            sharedCells(0, 2) = 3
            """);
        at("the free headroom is its headroom minus the headroom cells of its queues").play("""
            setHeadroom(0, 5) = 0
            setHeadroom(1, 9) = 0
            setLossless(0, 0, true) = 0
            setLossless(0, 2, true) = 0
            setAlpha(0, 0, 0) = 8
            setAlpha(0, 2, 0) = 8
            arrive(0, 0, 3) = 0
            stageFor(0, 2, 3) = LOST
            stageFor(0, 2, 2) = 3
            arrive(0, 2, 2) = 1
            stageFor(0, 2, 1) = LOST
            stageFor(0, 0, 1) = LOST
            """);
    }

    private static void threshold() {
        at("The threshold of a queue is alpha * (free shared cells) / 8, truncated").play("""
            reset(16, 1) = 64
            setAlpha(0, 0, 1) = 8
            setAlpha(0, 1, 64) = 8
            setBurst(0, 1, 8, 0) = 0
            setAlpha(0, 2, 7) = 8
            threshold(0, 0) = 2
            threshold(0, 2) = 14
            arrive(0, 1, 1) = 0
            threshold(0, 0) = 1
            threshold(0, 1) = 120
            threshold(0, 2) = 13
            arrive(0, 1, 7) = 1
            threshold(0, 0) = 1
            threshold(0, 2) = 7
            arrive(0, 1, 1) = 2
            threshold(0, 0) = 0
            threshold(0, 1) = 56
            threshold(0, 2) = 6
            arrive(0, 1, 6) = 3
            threshold(0, 1) = 8
            threshold(0, 2) = 0
            arrive(0, 1, 1) = 4
            threshold(0, 1) = 0
            threshold(0, 0) = 0
            """);
        at("alpha is a parameter of the queue from 0 to 64").play("reset(128, 6) = 64; setAlpha(5, 2, 64) = 8; threshold(5, 2) = 1024;"
            + "setAlpha(5, 2, 0) = 64;"
            + "threshold(5, 2) = 0; largestAdmissible(5, 2) = 0").refused("BAD_VALUE", "setAlpha(5, 2, 65)", "setAlpha(5, 2, -1)");
    }

    private static void stageOne() {
        String seven = "reset(32, 2) = 64; setReserve(0, 4) = 0; grant(0, 3) = NONE; setAlpha(0, 1, 0) = 8";
        at("if g = n, the packet is admitted with n guaranteed cells").play(seven).play("stageFor(0, 0, 7) = 1; arrive(0, 0, 7) = 0;"
            + "guaranteedCells(0, 0) = 7; sharedCells(0, 0) = 0; freeGuarantee(0) = 0; freeShared() = 25");
        at("g the minimum of n and the free guarantee of its port").play(seven).play("stageFor(0, 0, 8) = 2; arrive(0, 0, 8) = 0;"
            + "guaranteedCells(0, 0) = 7; sharedCells(0, 0) = 1; freeGuarantee(0) = 0; freeShared() = 24");
        at("g the minimum of n and the free guarantee of its port").play(seven).play("arrive(0, 0, 6) = 0; guaranteedCells(0, 0) = 6;"
            + "freeGuarantee(0) = 1; stageFor(0, 2, 1) = 1; stageFor(0, 2, 2) = 2; stageFor(1, 0, 1) = 2");
        at("Otherwise it is refused with GUARANTEE_FULL").play(seven).play("stageFor(0, 1, 7) = 1; arrive(0, 1, 8) = LOST;"
            + "lossCause(3) = GUARANTEE_FULL; guaranteedCells(0, 1) = 0; freeGuarantee(0) = 7; arrive(0, 1, 7) = 0; arrive(0, 1, 1) = LOST;"
            + "lossCause(3) = GUARANTEE_FULL");
        at("if g = n: a full tank is not needed").play(seven).play("setBurst(0, 1, 32, 0) = 0; arrive(0, 1, 7) = 0; burstTank(0, 1) = 32;"
            + "arrive(0, 1, 1) = 1; burstTank(0, 1) = 31");
        at("if g = n: shared cells above the threshold do not count").play("arrive(0, 0, 12) = 0; setAlpha(0, 0, 0) = 8;"
            + "setBurst(0, 0, 9, 0) = 0; setReserve(0, 3) = 0;"
            + "arrive(0, 0, 3) = 1; burstTank(0, 0) = 9; guaranteedCells(0, 0) = 3; sharedCells(0, 0) = 12; arrive(0, 0, 1) = LOST;"
            + "lossCause(2) = OVER_THRESHOLD");
    }

    private static void poolOfStageTwo() {
        // Port 0 has 3 guaranteed cells, and 4 shared cells are free.
        String four = "reset(16, 2) = 64; setReserve(0, 3) = 0; setAlpha(1, 0, 64) = 8; setAlpha(0, 0, 64) = 8; arrive(1, 0, 9) = 0;"
            + "freeShared() = 4;";
        at("If r is greater than the free shared cells, the packet is refused with POOL_EMPTY").play(four).play("stageFor(0, 0, 8) = LOST;"
            + "arrive(0, 0, 8) = LOST; lossCause(2) = POOL_EMPTY; losses(0, 2) = 1; losses(0, 3) = 0; lostCells(0) = 8; freeShared() = 4;"
            + "freeGuarantee(0) = 3");
        at("If r is greater than the free shared cells: r is as great").play(four).play("stageFor(0, 0, 7) = 2; arrive(0, 0, 7) = 1;"
            + "guaranteedCells(0, 0) = 3;"
            + "sharedCells(0, 0) = 4; freeShared() = 0; arrive(0, 0, 1) = LOST; lossCause(2) = POOL_EMPTY; arrive(1, 0, 1) = LOST;"
            + "losses(1, 2) = 1");
        at("If r is greater than the free shared cells: no tank helps").play(four).play("setBurst(0, 0, 32, 0) = 0;"
            + "stageFor(0, 0, 8) = LOST; stageFor(0, 0, 7) = 2");
        // Both refusals of stage 2 could apply to a packet of 5 cells: the pool is looked at first.
        at("If r is greater than the free shared cells .. Otherwise let x be").play(four).play("setAlpha(1, 0, 0) = 64;"
            + "arrive(1, 0, 4) = LOST;"
            + "lossCause(2) = OVER_THRESHOLD; losses(1, 3) = 1; arrive(1, 0, 5) = LOST; lossCause(2) = POOL_EMPTY; losses(1, 2) = 1;"
            + "losses(1, 3) = 1");
    }

    private static void thresholdOfStageTwo() {
        // The threshold is 8 at first.
        String eight = "reset(32, 1) = 64; setAlpha(0, 0, 2) = 8; threshold(0, 0) = 8;";
        at("If x is at most the content of the burst tank of the queue: no tank").play(eight)
            .play("stageFor(0, 0, 9) = LOST; arrive(0, 0, 9) = LOST;"
            + "lossCause(2) = OVER_THRESHOLD; losses(0, 3) = 1; losses(0, 2) = 0; stageFor(0, 0, 8) = 2; arrive(0, 0, 8) = 0;"
            + "threshold(0, 0) = 6; arrive(0, 0, 1) = LOST; losses(0, 3) = 2");
        at("the number of shared cells of the queue plus r minus the threshold: only those of the queue").play(eight)
            .play("setAlpha(0, 1, 2) = 8;"
            + "arrive(0, 1, 8) = 0; threshold(0, 0) = 6; stageFor(0, 0, 7) = LOST; stageFor(0, 0, 6) = 2; arrive(0, 0, 6) = 1;"
            + "threshold(0, 0) = 4");
        at("plus r: the guaranteed cells are not in it").play(eight).play("setReserve(0, 4) = 0; threshold(0, 0) = 7;"
            + "stageFor(0, 0, 12) = LOST; stageFor(0, 0, 11) = 2; arrive(0, 0, 11) = 0; guaranteedCells(0, 0) = 4; sharedCells(0, 0) = 7");
        at("the threshold of the queue: that ahead of the packet").play("reset(16, 1) = 64; arrive(0, 0, 12) = 0; threshold(0, 0) = 4;"
            + "arrive(0, 0, 1) = LOST");
    }

    private static void tankOfStageTwo() {
        String three = "reset(32, 1) = 64; setAlpha(0, 0, 2) = 8; setBurst(0, 0, 3, 0) = 0; threshold(0, 0) = 8;";
        at("if x is above 0, the content of the tank decreases by x: x is -1").play(three).play("arrive(0, 0, 7) = 0; burstTank(0, 0) = 3");
        at("if x is above 0, the content of the tank decreases by x: x is 0").play(three).play("arrive(0, 0, 8) = 0; burstTank(0, 0) = 3");
        at("if x is above 0, the content of the tank decreases by x: x is 1").play(three).play("arrive(0, 0, 9) = 0; burstTank(0, 0) = 2");
        at("If x is at most the content: all of it").play(three).play("stageFor(0, 0, 11) = 2; arrive(0, 0, 11) = 0; burstTank(0, 0) = 0;"
            + "sharedCells(0, 0) = 11");
        at("Otherwise it is refused with OVER_THRESHOLD: one cell beyond the content").play(three)
            .play("stageFor(0, 0, 12) = LOST; arrive(0, 0, 12) = LOST;"
            + "lossCause(2) = OVER_THRESHOLD; burstTank(0, 0) = 3; sharedCells(0, 0) = 0");
        at("the content of the burst tank: 32 cells at most").play("""
            setAlpha(2, 1, 0) = 8
            setBurst(2, 1, 32, 0) = 0
            arrive(2, 1, 1) = 0
            burstTank(2, 1) = 31
            arrive(2, 1, 12) = 1
            burstTank(2, 1) = 18
            arrive(2, 1, 6) = LOST
            arrive(2, 1, 5) = 2
            burstTank(2, 1) = 0
            arrive(2, 1, 1) = LOST
            """);
        at("the content of the burst tank of the queue: of no other queue").play("setAlpha(2, 1, 0) = 8; setBurst(2, 0, 32, 0) = 0;"
            + "setBurst(1, 1, 32, 0) = 0; stageFor(2, 1, 1) = LOST");
    }

    private static void stageThree() {
        String five = "reset(24, 2) = 64; setReserve(0, 2) = 0; setHeadroom(0, 5) = 0; setAlpha(0, 1, 0) = 8;";
        at("if the queue is not lossless, the packet is refused with NOT_LOSSLESS").play(five)
            .play("arrive(0, 1, 3) = LOST; lossCause(1) = NOT_LOSSLESS;"
            + "arrive(0, 1, 12) = LOST; lossCause(1) = NOT_LOSSLESS; losses(0, 3) = 2; losses(0, 5) = 0; headroomCells(0, 1) = 0;"
            + "isPaused(0, 1) = 0");
        String lossless = five + "setLossless(0, 1, true) = 0;";
        at("If r is greater than the free headroom of the port, it is refused with HEADROOM_FULL").play(lossless)
            .play("stageFor(0, 1, 8) = LOST;"
            + "arrive(0, 1, 8) = LOST; lossCause(1) = HEADROOM_FULL; losses(0, 5) = 1; isPaused(0, 1) = 0; pauses(0, 1) = 0;"
            + "headroomCells(0, 1) = 0; freeGuarantee(0) = 2");
        at("Otherwise it is admitted with g guaranteed and r headroom cells, and the queue becomes paused").play(lossless)
            .play("stageFor(0, 1, 7) = 3;"
            + "arrive(0, 1, 7) = 0; guaranteedCells(0, 1) = 2; headroomCells(0, 1) = 5; sharedCells(0, 1) = 0; isPaused(0, 1) = 1;"
            + "pauses(0, 1) = 1; arrive(0, 1, 1) = LOST; lossCause(1) = HEADROOM_FULL; losses(0, 5) = 1; pauses(0, 1) = 1");
        at("the queue becomes paused: not by stages 1 and 2").play(lossless).play("arrive(0, 1, 2) = 0; isPaused(0, 1) = 0;"
            + "setAlpha(0, 1, 64) = 0; arrive(0, 1, 12) = 1; isPaused(0, 1) = 0; pauses(0, 1) = 0; headroomCells(0, 1) = 0");
        at("the free headroom of the port: none was set").play("setLossless(3, 0, true) = 0; setAlpha(3, 0, 0) = 8; arrive(3, 0, 1) = LOST;"
            + "lossCause(1) = HEADROOM_FULL; isPaused(3, 0) = 0");
        at("the free headroom of the port: of no other port").play("setLossless(3, 0, true) = 0; setAlpha(3, 0, 0) = 8;"
            + "setHeadroom(2, 9) = 0; stageFor(3, 0, 1) = LOST; setHeadroom(3, 1) = 0; stageFor(3, 0, 1) = 3; stageFor(3, 0, 2) = LOST");
        at("the free headroom of the port: behind an empty pool").play("reset(16, 1) = 64; setHeadroom(0, 4) = 0;"
            + "setLossless(0, 0, true) = 0;"
            + "setAlpha(0, 0, 64) = 8; arrive(0, 0, 12) = 0; freeShared() = 0; stageFor(0, 0, 4) = 3; stageFor(0, 0, 5) = LOST;"
            + "arrive(0, 0, 4) = 1; freeRuns() = 0; arrive(0, 0, 1) = LOST; lossCause(2) = POOL_EMPTY; losses(0, 5) = 1");
    }

    /** 16 cells, all of them shared and in use: 3 and 2 of priority 2, 4 and 5 of priority 1, 2 of priority 0. */
    private static final String FULL = """
        reset(16, 2) = 64
        setAlpha(0, 0, 64) = 8
        setAlpha(0, 1, 64) = 8
        setAlpha(0, 2, 64) = 8
        arrive(0, 2, 3) = 0
        arrive(0, 2, 2) = 1
        arrive(0, 1, 4) = 2
        arrive(0, 1, 5) = 3
        arrive(0, 0, 2) = 4
        freeShared() = 0
        """;

    private static void pushOutOff() {
        at("if push-out is off, the packet is refused with PUSH_OUT_OFF").play(FULL).play("stageFor(0, 0, 1) = LOST;"
            + "arrive(0, 0, 1) = LOST;"
            + "lossCause(0) = PUSH_OUT_OFF; losses(0, 8) = 0; queueLength(0, 2) = 2; arrive(0, 2, 1) = LOST; lossCause(0) = PUSH_OUT_OFF");
        at("each one only if all stages before have refused the packet").play("""
            reset(16, 1) = 64
            setPushOut(true) = 0
            setReserve(0, 3) = 0
            setHeadroom(0, 2) = 0
            setLossless(0, 0, true) = 0
            setAlpha(0, 0, 1) = 8
            arrive(0, 2, 2) = 0
            threshold(0, 0) = 1
            stageFor(0, 0, 1) = 1
            stageFor(0, 0, 2) = 2
            stageFor(0, 0, 3) = 3
            stageFor(0, 0, 4) = 4
            stageFor(0, 0, 5) = LOST
            arrive(0, 0, 3) = 1
            losses(0, 8) = 0
            headroomCells(0, 0) = 2
            """);
    }

    private static void victims() {
        at("for some k of at least 1: there is no victim").play("reset(16, 2) = 64; setPushOut(true) = 0; setAlpha(0, 0, 0) = 8;"
            + "arrive(0, 0, 1) = LOST; lossCause(0) = NO_VICTIM; losses(0, 8) = 0; losses(0, 3) = 1");
        at("first all of priority 2 (if the priority of the packet is not 2)").play(FULL).play("setPushOut(true) = 0;"
            + "stageFor(0, 2, 1) = LOST; arrive(0, 2, 1) = LOST; lossCause(0) = NO_VICTIM; queueLength(0, 2) = 2; losses(0, 8) = 0");
        at("then all of priority 1 (if it is 0)").play(FULL).play("setPushOut(true) = 0; stageFor(0, 1, 5) = 4; stageFor(0, 1, 6) = LOST;"
            + "arrive(0, 1, 6) = LOST;"
            + "lossCause(0) = NO_VICTIM; losses(0, 8) = 0; queueLength(0, 1) = 2; queueLength(0, 2) = 2; arrive(0, 1, 5) = 5;"
            + "losses(0, 8) = 2; queueLength(0, 2) = 0; queueLength(0, 1) = 3; arrive(0, 1, 1) = LOST; lossCause(0) = NO_VICTIM");
        at("the packets in the queues of the same port").play(FULL).play("setPushOut(true) = 0; setAlpha(1, 0, 64) = 8;"
            + "stageFor(1, 0, 1) = LOST;"
            + "arrive(1, 0, 1) = LOST; lossCause(0) = NO_VICTIM; losses(1, 2) = 1; losses(0, 8) = 0; losses(1, 8) = 0; admitted() = 5");
        at("with lower priority than that of the arriving packet: the own queue is spared").play("reset(16, 1) = 64; setPushOut(true) = 0;"
            + "setAlpha(0, 0, 64) = 8; arrive(0, 0, 12) = 0; arrive(0, 0, 4) = 1; arrive(0, 0, 1) = LOST; lossCause(0) = NO_VICTIM;"
            + "queueLength(0, 0) = 2");
        at("Otherwise it is refused with NO_VICTIM, and no packet is removed").play(FULL).play("setPushOut(true) = 0;"
            + "setAlpha(0, 0, 0) = 64;"
            + "arrive(0, 0, 1) = LOST; lossCause(0) = NO_VICTIM; lossCause(1) = NOT_LOSSLESS; lossCause(2) = POOL_EMPTY;"
            + "lossCause(3) = GUARANTEE_FULL;"
            + "queueLength(0, 2) = 2; queueLength(0, 1) = 2; losses(0, 8) = 0; losses(0, 2) = 1; lostCells(0) = 1; freeRuns() = 0");
    }

    private static void victimsInOrder() {
        String on = FULL + "setPushOut(true) = 0\n";
        at("in each queue the last packet first").play(on).play("arrive(0, 0, 1) = 5; losses(0, 8) = 1; fragments(1) = BAD_INDEX;"
            + "fragments(0) = 1; lostCells(0) = 2");
        at("exactly the first k victims are removed for the lowest such k: k is 1, all its cells").play(on)
            .play("arrive(0, 0, 2) = 5; losses(0, 8) = 1; freeShared() = 0; packetAt(0, 2, 0) = 0; queueLength(0, 2) = 1");
        at("exactly the first k victims are removed for the lowest such k: k is 2").play(on).play("arrive(0, 0, 3) = 5; losses(0, 8) = 2;"
            + "freeShared() = 2; queueLength(0, 2) = 0; queueLength(0, 1) = 2");
        at("exactly the first k victims are removed for the lowest such k: k is 2, all their cells").play(on)
            .play("arrive(0, 0, 5) = 5; losses(0, 8) = 2; freeShared() = 0; queueLength(0, 1) = 2");
        at("exactly the first k victims are removed for the lowest such k: k is 3").play(on)
            .play("arrive(0, 0, 6) = 5; losses(0, 8) = 3; freeShared() = 4;"
            + "fragments(3) = BAD_INDEX; packetAt(0, 1, 0) = 2; queueLength(0, 1) = 1; lostCells(0) = 10");
        at("exactly the first k victims are removed for the lowest such k: k is 3, all their cells").play(on)
            .play("arrive(0, 0, 10) = 5; losses(0, 8) = 3; freeShared() = 0; queueLength(0, 1) = 1; queueLength(0, 0) = 2");
        at("exactly the first k victims are removed for the lowest such k: all there are").play(on)
            .play("arrive(0, 0, 11) = 5; losses(0, 8) = 4;"
            + "freeShared() = 3; queueLength(0, 1) = 0; queueLength(0, 2) = 0; lostCells(0) = 14; losses(0, 2) = 0");
    }

    private static void victimsToTheCell() {
        // Without victims a threshold of 0; with them one of 3: a queue of priority 0 may have 3 cells and what its tank has.
        String threshold = "reset(16, 1) = 64; setPushOut(true) = 0; setAlpha(0, 2, 64) = 8; setAlpha(0, 0, 2) = 8; arrive(0, 2, 4) = 0;"
            + "arrive(0, 2, 12) = 1;";
        at("If the packet would be admitted by stage 1 or 2: to the threshold").play(threshold)
            .play("stageFor(0, 0, 4) = 4; stageFor(0, 0, 5) = LOST;"
            + "stageFor(0, 0, 3) = 4; arrive(0, 0, 3) = 2; losses(0, 8) = 1; sharedCells(0, 0) = 3; queueLength(0, 2) = 1");
        at("If the packet would be admitted by stage 1 or 2: to the threshold of all cells").play(threshold)
            .play("arrive(0, 0, 4) = 2; losses(0, 8) = 2; freeShared() = 12");
        at("If the packet would be admitted by stage 1 or 2: to the content of the tank").play(threshold)
            .play("setBurst(0, 0, 2, 0) = 0; stageFor(0, 0, 6) = 4;"
            + "stageFor(0, 0, 7) = LOST; arrive(0, 0, 5) = 2; losses(0, 8) = 1; burstTank(0, 0) = 0");
        String guaranteed = "reset(24, 1) = 64; setPushOut(true) = 0; setReserve(0, 8) = 0; setAlpha(0, 0, 0) = 8; arrive(0, 2, 3) = 0;"
            + "arrive(0, 2, 5) = 1;";
        at("the packet is admitted by that stage: stage 1").play(guaranteed).play("stageFor(0, 0, 9) = LOST; arrive(0, 0, 5) = 2;"
            + "losses(0, 8) = 1; guaranteedCells(0, 0) = 5; guaranteedCells(0, 2) = 3; sharedCells(0, 0) = 0");
        at("the packet is admitted by that stage: stage 1, all victims").play(guaranteed).play("arrive(0, 0, 6) = 2; losses(0, 8) = 2;"
            + "guaranteedCells(0, 0) = 6; freeGuarantee(0) = 2; queueLength(0, 2) = 0");
        at("the packet is admitted by that stage: stage 1, with shared cells above the threshold")
            .play("arrive(0, 0, 12) = 0; setAlpha(0, 0, 0) = 8; setPushOut(true) = 0; setReserve(0, 4) = 0;"
            + "arrive(0, 2, 4) = 1; stageFor(0, 0, 5) = LOST; stageFor(0, 0, 4) = 4; arrive(0, 0, 4) = 2; losses(0, 8) = 1;"
            + "guaranteedCells(0, 0) = 4; sharedCells(0, 0) = 12");
        at("no packet is removed: one cell too many for all victims").play(guaranteed).play("arrive(0, 0, 9) = LOST;"
            + "lossCause(0) = NO_VICTIM;"
            + "lossCause(2) = OVER_THRESHOLD; queueLength(0, 2) = 2; losses(0, 8) = 0; losses(0, 3) = 1; freeGuarantee(0) = 0");
        String both = "reset(24, 1) = 64; setPushOut(true) = 0; setReserve(0, 4) = 0; setAlpha(0, 0, 0) = 8; arrive(0, 2, 4) = 0;"
            + "arrive(0, 2, 5) = 1; sharedCells(0, 2) = 5;";
        at("for the lowest such k: the shared cells of victims do not help, their guaranteed ones do").play(both)
            .play("stageFor(0, 0, 5) = LOST; arrive(0, 0, 4) = 2; losses(0, 8) = 2; guaranteedCells(0, 0) = 4;"
            + "sharedCells(0, 0) = 0; freeShared() = 20");
        at("for the lowest such k: the least packet needs both victims, too").play(both).play("arrive(0, 0, 1) = 2; losses(0, 8) = 2;"
            + "freeGuarantee(0) = 3");
        // The last victims give back headroom alone, which neither stage 1 nor stage 2 takes.
        String headroom = "reset(24, 1) = 64; setPushOut(true) = 0; setHeadroom(0, 8) = 0; setLossless(0, 1, true) = 0;"
            + "setAlpha(0, 0, 64) = 8; setAlpha(0, 1, 64) = 8;"
            + "arrive(0, 1, 9) = 0; arrive(0, 1, 7) = 1; arrive(0, 1, 6) = 2; headroomCells(0, 1) = 6; freeShared() = 0;";
        at("for the lowest such k: headroom cells of victims do not help").play(headroom).play("arrive(0, 0, 1) = 3; losses(0, 8) = 2;"
            + "headroomCells(0, 1) = 0; sharedCells(0, 1) = 9; freeShared() = 6");
        at("for the lowest such k: all its shared cells").play(headroom).play("arrive(0, 0, 7) = 3; losses(0, 8) = 2; freeShared() = 0");
        at("for the lowest such k: one more").play(headroom).play("arrive(0, 0, 8) = 3; losses(0, 8) = 3; freeShared() = 8");
    }

    private static void lossCodes() {
        at("Its loss is counted for its port under HEADROOM_FULL if its queue is lossless").play("""
            reset(16, 1) = 64
            setLossless(0, 0, true) = 0
            setAlpha(0, 0, 0) = 8
            setAlpha(0, 1, 64) = 8
            arrive(0, 0, 4) = LOST
            losses(0, 5) = 1
            losses(0, 3) = 0
            arrive(0, 1, 12) = 0
            arrive(0, 1, 4) = 1
            arrive(0, 0, 4) = LOST
            losses(0, 5) = 2
            losses(0, 2) = 0
            lostCells(0) = 8
            """);
        at("otherwise under the code with which stage 2 refused it").play("""
            reset(16, 1) = 64
            setAlpha(0, 0, 0) = 8
            setAlpha(0, 1, 64) = 8
            arrive(0, 0, 12) = LOST
            losses(0, 3) = 1
            losses(0, 2) = 0
            arrive(0, 1, 5) = 0
            arrive(0, 0, 12) = LOST
            losses(0, 2) = 1
            arrive(0, 0, 11) = LOST
            losses(0, 3) = 2
            losses(0, 5) = 0
            lostCells(0) = 35
            """);
        at("A removed victim is a loss of the port, too, which is counted under PUSHED_OUT").play(FULL)
            .play("setPushOut(true) = 0; arrive(0, 0, 12) = 5;"
            + "losses(0, 8) = 4; losses(0, 9) = 0; losses(0, 2) = 0; lostCells(0) = 14; losses(1, 8) = 0");
    }

    private static void releasing() {
        // 4 guaranteed cells and so many shared ones for the first packet, headroom cells for the second.
        String pools = "setReserve(0, 4) = 0; setHeadroom(0, 6) = 0; setLossless(0, 1, true) = 0; setScheduler(0, false, 12) = 4;";
        at("first its headroom cells: exactly those").play(pools).play("arrive(0, 1, 5) = 0; setAlpha(0, 1, 0) = 8; arrive(0, 1, 5) = 1;"
            + "headroomCells(0, 1) = 5;"
            + "setScheduler(0, false, 5) = 12; ticks(1) = 1; headroomCells(0, 1) = 0; sharedCells(0, 1) = 1; guaranteedCells(0, 1) = 4");
        at("then its shared cells: one").play(pools).play("arrive(0, 1, 7) = 0; setAlpha(0, 1, 0) = 8; arrive(0, 1, 6) = 1;"
            + "headroomCells(0, 1) = 6;"
            + "sharedCells(0, 1) = 3; setScheduler(0, false, 7) = 12; ticks(1) = 1; headroomCells(0, 1) = 0; sharedCells(0, 1) = 2;"
            + "guaranteedCells(0, 1) = 4");
        at("then its shared cells: all").play(pools).play("arrive(0, 1, 7) = 0; setAlpha(0, 1, 0) = 8; arrive(0, 1, 4) = 1;"
            + "setScheduler(0, false, 7) = 12;"
            + "ticks(1) = 1; headroomCells(0, 1) = 0; sharedCells(0, 1) = 0; guaranteedCells(0, 1) = 4; freeGuarantee(0) = 0");
        at("then its guaranteed cells: one").play(pools).play("arrive(0, 1, 12) = 0; setAlpha(0, 1, 0) = 8; arrive(0, 1, 3) = 1;"
            + "sharedCells(0, 1) = 8;"
            + "ticks(1) = 1; headroomCells(0, 1) = 0; sharedCells(0, 1) = 0; guaranteedCells(0, 1) = 3; freeGuarantee(0) = 1;"
            + "freeShared() = 54");
        at("the counts of the queue decrease by n altogether: to nothing").play(pools).play("arrive(0, 1, 12) = 0; setAlpha(0, 1, 0) = 8;"
            + "arrive(0, 1, 6) = 1;"
            + "ticks(2) = 2; headroomCells(0, 1) = 0; sharedCells(0, 1) = 0; guaranteedCells(0, 1) = 0; freeGuarantee(0) = 4;"
            + "freeShared() = 54; freeRuns() = 1");
        at("Its cells in the memory become free: those of all its fragments").play(HOLES).play("arrive(2, 0, 11) = 8; fragments(8) = 3;"
            + "freeRuns() = 2; flush(2) = 1; freeRuns() = 4; runLength(0) = 3; runLength(1) = 5; runLength(2) = 3; runLength(3) = 5");
        at("the counts of the queue decrease: of no other queue").play(pools).play("setLossless(0, 2, true) = 0; setAlpha(0, 2, 0) = 8;"
            + "arrive(0, 1, 4) = 0;"
            + "arrive(0, 2, 3) = 1; headroomCells(0, 2) = 3; setScheduler(0, false, 4) = 12; ticks(1) = 1; headroomCells(0, 2) = 3;"
            + "guaranteedCells(0, 1) = 0");
    }

    /** Free runs of 3 cells from 0, of 5 from 4, of 3 from 10 and of 5 from 14, and nothing behind cell 18. */
    private static final String HOLES = """
        reset(20, 3) = 64
        setAlpha(0, 0, 64) = 8
        setAlpha(1, 0, 64) = 8
        setAlpha(2, 0, 64) = 8
        arrive(0, 0, 3) = 0
        arrive(1, 0, 1) = 1
        arrive(0, 0, 5) = 2
        arrive(1, 0, 1) = 3
        arrive(0, 0, 3) = 4
        arrive(1, 0, 1) = 5
        arrive(0, 0, 5) = 6
        arrive(1, 0, 1) = 7
        flush(0) = 4
        freeRuns() = 4
        """;

    private static void bestFit() {
        at("A free run is a maximal set of successive free cells").play(HOLES).play("runStart(0) = 0; runLength(0) = 3; runStart(1) = 4;"
            + "runLength(1) = 5;"
            + "runStart(2) = 10; runLength(2) = 3; runStart(3) = 14; runLength(3) = 5; flush(1) = 4; freeRuns() = 1; runLength(0) = 20");
        at("the first m cells of the shortest one of these (of several the one with the lowest first cell): as long as the packet")
            .play(HOLES)
            .play("arrive(2, 0, 3) = 8; fragments(8) = 1; fragmentStart(8, 0) = 0; arrive(2, 0, 3) = 9; fragmentStart(9, 0) = 10;"
            + "arrive(2, 0, 3) = 10;"
            + "fragmentStart(10, 0) = 4; fragmentLength(10, 0) = 3; freeRuns() = 2; runStart(0) = 7; runLength(0) = 2");
        at("the first m cells of the shortest one of these: one cell longer").play(HOLES).play("arrive(2, 0, 4) = 8; fragments(8) = 1;"
            + "fragmentStart(8, 0) = 4;"
            + "fragmentLength(8, 0) = 4; runStart(1) = 8; runLength(1) = 1; arrive(2, 0, 1) = 9; fragmentStart(9, 0) = 8;"
            + "arrive(2, 0, 1) = 10; fragmentStart(10, 0) = 0");
        at("if there are free runs of at least m cells: the longest ones are as long").play(HOLES)
            .play("arrive(2, 0, 5) = 8; fragments(8) = 1;"
            + "fragmentStart(8, 0) = 4; arrive(2, 0, 5) = 9; fragments(9) = 1; fragmentStart(9, 0) = 14; fragmentLength(9, 0) = 5");
    }

    private static void longestRun() {
        at("Otherwise the longest free run (of several the one with the lowest first cell) becomes its next fragment as a whole")
            .play(HOLES)
            .play("arrive(2, 0, 6) = 8; fragments(8) = 2; fragmentStart(8, 0) = 4; fragmentLength(8, 0) = 5; fragmentStart(8, 1) = 0;"
            + "fragmentLength(8, 1) = 1; runStart(0) = 1; runLength(0) = 2");
        at("and the rest is placed in the same way: as long as a run").play(HOLES).play("arrive(2, 0, 10) = 8; fragments(8) = 2;"
            + "fragmentStart(8, 1) = 14; fragmentLength(8, 1) = 5; freeRuns() = 2");
        at("and the rest is placed in the same way: one cell more than a run").play(HOLES).play("arrive(2, 0, 11) = 8; fragments(8) = 3;"
            + "fragmentStart(8, 1) = 14;"
            + "fragmentLength(8, 1) = 5; fragmentStart(8, 2) = 0; fragmentLength(8, 2) = 1; fragmentStart(8, 3) = BAD_INDEX");
        at("The fragments of a packet are numbered from 0 in this order: to the last free cell").play(HOLES)
            .play("arrive(2, 0, 4) = 8; arrive(2, 0, 12) = 9;"
            + "fragments(9) = 4; fragmentStart(9, 0) = 14; fragmentStart(9, 1) = 0; fragmentLength(9, 1) = 3; fragmentStart(9, 2) = 10;"
            + "fragmentStart(9, 3) = 8; fragmentLength(9, 3) = 1; freeRuns() = 0; freeShared() = 0");
        Script single = at("The fragments of a packet: as many as it has cells").play("reset(24, 3) = 64; setReserve(0, 12) = 0;"
            + "setReserve(1, 12) = 0");
        for (int i = 0; i < 24; i++) {
            single.play("arrive(" + i % 2 + ", 0, 1) = " + i);
        }
        single.play("flush(1) = 12; freeRuns() = 12; arrive(1, 0, 12) = 24; fragments(24) = 12; freeRuns() = 0");
        for (int i = 0; i < 12; i++) {
            single.play("fragmentStart(24, " + i + ") = " + (2 * i + 1) + "; fragmentLength(24, " + i + ") = 1");
        }
        single.play("flush(1) = 1; freeRuns() = 12; runStart(11) = 23; flush(0) = 12; freeRuns() = 1");
    }

    private static void placementOfVictims() {
        // The victim of 8 cells lies between two packets that stay; 2 cells are free at the end.
        at("When victims are removed for a packet, they are removed before it is placed").play("""
            reset(16, 1) = 64
            setPushOut(true) = 0
            setAlpha(0, 0, 64) = 8
            setAlpha(0, 2, 64) = 8
            arrive(0, 0, 3) = 0
            arrive(0, 2, 8) = 1
            arrive(0, 0, 3) = 2
            runStart(0) = 14
            arrive(0, 0, 3) = 3
            losses(0, 8) = 1
            fragments(3) = 1
            fragmentStart(3, 0) = 3
            runStart(0) = 6
            runLength(0) = 5
            """);
        at("they are removed before it is placed: all cells of the memory").play("""
            reset(16, 1) = 64
            setPushOut(true) = 0
            setAlpha(0, 0, 64) = 8
            setAlpha(0, 2, 64) = 8
            arrive(0, 0, 4) = 0
            arrive(0, 2, 12) = 1
            arrive(0, 0, 12) = 2
            fragments(2) = 1
            fragmentStart(2, 0) = 4
            fragmentLength(2, 0) = 12
            freeRuns() = 0
            """);
    }
}
