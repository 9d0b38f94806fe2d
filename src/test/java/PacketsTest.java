/** Promises 13 to 16: arrivals, ticks, flushes and random traffic. */
public final class PacketsTest {
    private static final Answers A = new Answers();

    public static void main(String[] args) {
        stagesOneAndTwo();
        stageThree();
        stageFour();
        placement();
        arriveErrors();
        strictPriority();
        roundRobin();
        tanksAndPauses();
        tickErrors();
        flush();
        traffic();
        A.end("PacketsTest");
    }

    private static void stagesOneAndTwo() {
        new Script(A, "promise 13, guarantee").play("setReserve(0, 10) = 0; arrive(0, 1, 12) = 0; guaranteedCells(0, 1) = 10;"
            + "sharedCells(0, 1) = 2; flush(0) = 1; arrive(0, 2, 10) = 1; guaranteedCells(0, 2) = 10; sharedCells(0, 2) = 0;"
            + "freeGuarantee(0) = 0; arrive(0, 0, 1) = 2; sharedCells(0, 0) = 1; guaranteedCells(0, 0) = 0");
        new Script(A, "promise 13, stage 1 leaves the tank").play("setBurst(0, 0, 9, 0) = 0; arrive(0, 0, 12) = 0; setReserve(0, 3) = 0;"
            + "setAlpha(0, 0, 0) = 8; arrive(0, 0, 3) = 1; burstTank(0, 0) = 9; guaranteedCells(0, 0) = 3;"
            + "arrive(0, 0, 1) = LOST; lossCause(2) = OVER_THRESHOLD; burstTank(0, 0) = 9");
        new Script(A, "promise 13, the tank").play("reset(16, 1) = 64; setAlpha(0, 1, 4) = 8; setBurst(0, 1, 5, 0) = 0;"
            + "arrive(0, 1, 8) = 0; burstTank(0, 1) = 5; threshold(0, 1) = 4; arrive(0, 1, 2) = LOST; arrive(0, 1, 1) = 1;"
            + "burstTank(0, 1) = 0; threshold(0, 1) = 3; arrive(0, 1, 1) = LOST; sharedCells(0, 1) = 9");
        new Script(A, "promise 13, the pool").play("reset(16, 2) = 64; setAlpha(0, 0, 64) = 8; arrive(0, 0, 10) = 0; arrive(0, 0, 7) = LOST;"
            + "lossCause(2) = POOL_EMPTY; losses(0, 2) = 1; losses(0, 3) = 0; lostCells(0) = 7; arrive(0, 0, 6) = 1;"
            + "freeShared() = 0; arrive(0, 0, 1) = LOST; losses(0, 2) = 2; admitted() = 2; arrive(1, 0, 1) = LOST;"
            + "losses(1, 2) = 1");
        new Script(A, "promise 13, the threshold itself is not above it").play("reset(16, 1) = 64; setAlpha(0, 0, 4) = 8;"
            + "arrive(0, 0, 9) = LOST; losses(0, 3) = 1; arrive(0, 0, 8) = 0; arrive(0, 0, 1) = LOST; losses(0, 3) = 2");
    }

    private static void stageThree() {
        new Script(A, "promise 13, headroom").play("reset(24, 2) = 64; setHeadroom(0, 8) = 0; setReserve(0, 2) = 0; setAlpha(0, 0, 0) = 8;"
            + "setAlpha(0, 2, 0) = 8; setLossless(0, 0, true) = 0; setLossless(0, 2, true) = 0; arrive(0, 0, 5) = 0;"
            + "guaranteedCells(0, 0) = 2; headroomCells(0, 0) = 3; sharedCells(0, 0) = 0; isPaused(0, 0) = 1; isPaused(0, 2) = 0;"
            + "arrive(0, 2, 5) = 1; headroomCells(0, 2) = 5; isPaused(0, 2) = 1; arrive(0, 0, 1) = LOST; losses(0, 5) = 1;"
            + "losses(0, 3) = 0; lossCause(0) = PUSH_OUT_OFF; lossCause(1) = HEADROOM_FULL; lossCause(2) = OVER_THRESHOLD;"
            + "lossCause(3) = GUARANTEE_FULL; arrive(0, 1, 1) = 2; sharedCells(0, 1) = 1; pauses(0, 0) = 1");
        new Script(A, "promise 13, headroom behind an empty pool").play("reset(16, 1) = 64; setHeadroom(0, 4) = 0; setLossless(0, 1, true) = 0;"
            + "setAlpha(0, 0, 64) = 8; arrive(0, 0, 12) = 0; arrive(0, 1, 5) = LOST; losses(0, 5) = 1; lossCause(2) = POOL_EMPTY;"
            + "arrive(0, 1, 4) = 1; headroomCells(0, 1) = 4; freeRuns() = 0");
        new Script(A, "releasing: headroom, then shared, then guaranteed cells").play("reset(32, 1) = 64; setReserve(0, 3) = 0;"
            + "setHeadroom(0, 6) = 0; setLossless(0, 0, true) = 0; setAlpha(0, 0, 1) = 8; arrive(0, 0, 5) = 0; guaranteedCells(0, 0) = 3;"
            + "sharedCells(0, 0) = 2; arrive(0, 0, 4) = 1; headroomCells(0, 0) = 4; setScheduler(0, false, 5) = 4; ticks(1) = 1;"
            + "headroomCells(0, 0) = 0; sharedCells(0, 0) = 1; guaranteedCells(0, 0) = 3; ticks(1) = 1; sharedCells(0, 0) = 0;"
            + "guaranteedCells(0, 0) = 0; freeShared() = 23; freeGuarantee(0) = 3");
    }

    private static void stageFour() {
        String full = "reset(16, 2) = 64; setPushOut(true) = 0; setAlpha(0, 0, 64) = 8; setAlpha(0, 1, 64) = 8;"
            + "setAlpha(0, 2, 64) = 8; arrive(0, 2, 3) = 0; arrive(0, 1, 4) = 1; arrive(0, 2, 2) = 2; arrive(0, 1, 4) = 3;"
            + "arrive(0, 0, 3) = 4; freeShared() = 0;";
        new Script(A, "promise 13, the last packet of priority 2 first").play(full).play("arrive(0, 0, 2) = 5; losses(0, 8) = 1;"
            + "fragments(2) = BAD_INDEX; fragments(0) = 1; fragmentStart(5, 0) = 7; lostCells(0) = 2; admitted() = 6");
        new Script(A, "promise 13, then all of priority 1").play(full).play("arrive(0, 0, 9) = 5; losses(0, 8) = 3; lostCells(0) = 9;"
            + "fragments(0) = BAD_INDEX; fragments(3) = BAD_INDEX; fragments(1) = 1; packetAt(0, 1, 0) = 1; queueLength(0, 2) = 0;"
            + "queueLength(0, 1) = 1; queueLength(0, 0) = 2; freeShared() = 0");
        new Script(A, "promise 13, only lower priorities").play(full).play("arrive(0, 1, 5) = 5; queueLength(0, 2) = 0; losses(0, 8) = 2;"
            + "arrive(0, 1, 1) = LOST; lossCause(0) = NO_VICTIM; losses(0, 2) = 1; losses(0, 8) = 2");
        new Script(A, "promise 13, only the same port").play(full).playUnchanged("stageFor(1, 0, 1) = LOST; stageFor(0, 2, 1) = LOST")
            .play("arrive(0, 2, 1) = LOST; lossCause(0) = NO_VICTIM; lossCause(1) = NOT_LOSSLESS; arrive(1, 0, 1) = LOST;"
            + "lossCause(0) = NO_VICTIM; losses(1, 2) = 1; losses(0, 8) = 0; queueLength(0, 2) = 2");
        new Script(A, "promise 13, nothing is removed if it does not help").play(full).play("setAlpha(0, 0, 0) = 64;"
            + "arrive(0, 0, 1) = LOST; lossCause(0) = NO_VICTIM; lossCause(2) = POOL_EMPTY; losses(0, 8) = 0; queueLength(0, 2) = 2");
        new Script(A, "promise 13, a victim's guaranteed cells").play("reset(16, 1) = 64; setReserve(0, 10) = 0; setPushOut(true) = 0;"
            + "setAlpha(0, 0, 0) = 8; arrive(0, 2, 4) = 0; arrive(0, 2, 6) = 1; arrive(0, 0, 6) = 2; guaranteedCells(0, 0) = 6;"
            + "sharedCells(0, 0) = 0; losses(0, 8) = 1; guaranteedCells(0, 2) = 4");
        String mixed = "reset(24, 1) = 64; setReserve(0, 4) = 0; setHeadroom(0, 6) = 0; setLossless(0, 2, true) = 0; setAlpha(0, 2, 64) = 8;"
            + "setPushOut(true) = 0; arrive(0, 2, 4) = 0; arrive(0, 2, 12) = 1; arrive(0, 2, 5) = 2; headroomCells(0, 2) = 5;"
            + "arrive(0, 2, 1) = 3; sharedCells(0, 2) = 13; freeShared() = 1; setAlpha(0, 0, 64) = 8;";
        new Script(A, "promise 13, victims give back headroom first").play(mixed).play("arrive(0, 0, 2) = 4; losses(0, 8) = 2; lostCells(0) = 6;"
            + "headroomCells(0, 2) = 0; sharedCells(0, 2) = 12; guaranteedCells(0, 2) = 4; freeShared() = 0");
        new Script(A, "promise 13, then shared cells").play(mixed).play("arrive(0, 0, 3) = 4; losses(0, 8) = 3; sharedCells(0, 2) = 0;"
            + "guaranteedCells(0, 2) = 4; freeShared() = 11");
        new Script(A, "promise 13, then guaranteed cells").play(mixed).play("setAlpha(0, 0, 0) = 64; stageFor(0, 0, 5) = LOST;"
            + "arrive(0, 0, 4) = 4; losses(0, 8) = 4; guaranteedCells(0, 0) = 4; sharedCells(0, 0) = 0; freeShared() = 14");
        new Script(A, "promise 13, the queue goes on behind removed victims").play("reset(16, 1) = 64; setPushOut(true) = 0; setAlpha(0, 2, 64) = 8;"
            + "setAlpha(0, 0, 64) = 8; arrive(0, 2, 4) = 0; arrive(0, 2, 4) = 1; arrive(0, 2, 4) = 2; arrive(0, 0, 9) = 3; queueLength(0, 2) = 1;"
            + "packetAt(0, 2, 0) = 0; setScheduler(0, false, 16) = 4; ticks(1) = 2; arrive(0, 2, 3) = 4; packetAt(0, 2, 0) = 4; arrive(0, 2, 2) = 5;"
            + "packetAt(0, 2, 1) = 5; queueLength(0, 2) = 2; ticks(1) = 2; queueLength(0, 2) = 0; freeRuns() = 1");
        new Script(A, "promise 13, the tank counts after a push-out").play("reset(16, 1) = 64; setPushOut(true) = 0; setAlpha(0, 2, 64) = 8;"
            + "setAlpha(0, 0, 2) = 8; setBurst(0, 0, 3, 0) = 0; arrive(0, 2, 8) = 0; arrive(0, 2, 8) = 1; arrive(0, 0, 4) = 2;"
            + "burstTank(0, 0) = 1; losses(0, 8) = 1; sharedCells(0, 0) = 4; freeShared() = 4");
        new Script(A, "promise 13, a lossless packet that pushes out").play("reset(16, 1) = 64; setPushOut(true) = 0; setHeadroom(0, 2) = 0;"
            + "setLossless(0, 0, true) = 0; setAlpha(0, 2, 64) = 8; arrive(0, 2, 8) = 0; arrive(0, 2, 6) = 1; arrive(0, 0, 2) = 2;"
            + "headroomCells(0, 0) = 2; losses(0, 8) = 0; arrive(0, 0, 3) = 3; losses(0, 8) = 1; sharedCells(0, 0) = 3; pauses(0, 0) = 1;"
            + "headroomCells(0, 0) = 2");
        new Script(A, "promise 13, victims were the only packets").play("reset(16, 1) = 64; setPushOut(true) = 0; setAlpha(0, 2, 64) = 8;"
            + "setScheduler(0, true, 3) = 4; arrive(0, 2, 12) = 0; ticks(1) = 0; credit(0) = 3; deficit(0, 2) = 12; setScheduler(0, true, 2) = 3;"
            + "arrive(0, 1, 6) = 1; losses(0, 8) = 1; credit(0) = 0; deficit(0, 2) = 0; arrive(0, 0, 2) = 2; ticks(1) = 1; queueLength(0, 0) = 0;"
            + "queueLength(0, 1) = 1");
    }

    private static void placement() {
        String holes = "reset(32, 6) = 64; setAlpha(0, 0, 64) = 8; setAlpha(1, 0, 64) = 8; setAlpha(2, 0, 64) = 8; setAlpha(3, 0, 64) = 8;"
            + "setAlpha(4, 0, 64) = 8; setAlpha(5, 0, 64) = 8; arrive(0, 0, 5) = 0; arrive(1, 0, 1) = 1; arrive(2, 0, 3) = 2;"
            + "arrive(1, 0, 1) = 3; arrive(3, 0, 8) = 4; arrive(1, 0, 2) = 5; arrive(2, 0, 3) = 6; arrive(1, 0, 9) = 7;"
            + "flush(0) = 1; flush(2) = 2; flush(3) = 1; freeRuns() = 4;";
        new Script(A, "placement, the shortest run that fits").play(holes).play("runStart(0) = 0; runLength(0) = 5; runStart(1) = 6;"
            + "runLength(1) = 3; runStart(2) = 10; runLength(2) = 8; runStart(3) = 20; runLength(3) = 3; arrive(4, 0, 3) = 8;"
            + "fragmentStart(8, 0) = 6; arrive(4, 0, 4) = 9; fragmentStart(9, 0) = 0; arrive(4, 0, 2) = 10; fragmentStart(10, 0) = 20;"
            + "arrive(4, 0, 1) = 11; fragmentStart(11, 0) = 4; arrive(4, 0, 8) = 12; fragmentStart(12, 0) = 10");
        new Script(A, "placement, the longest run if none fits").play(holes).play("arrive(5, 0, 12) = 8; fragments(8) = 2;"
            + "fragmentStart(8, 0) = 10; fragmentLength(8, 0) = 8; fragmentStart(8, 1) = 0; fragmentLength(8, 1) = 4; freeRuns() = 3;"
            + "arrive(5, 0, 7) = 9; fragments(9) = 3; fragmentStart(9, 0) = 6; fragmentStart(9, 1) = 20; fragmentLength(9, 1) = 3;"
            + "fragmentStart(9, 2) = 4; fragmentLength(9, 2) = 1; freeRuns() = 0; flush(5) = 2; freeRuns() = 4; runLength(2) = 8");
    }

    private static void arriveErrors() {
        new Script(A, "promise 13, errors").play("arrive(3, 2, 12) = 0").playUnchanged("arrive(4, 0, 1) = BAD_INDEX; arrive(-1, 0, 1) = BAD_INDEX;"
            + "arrive(0, 3, 1) = BAD_INDEX; arrive(0, -1, 13) = BAD_INDEX; arrive(0, 0, 0) = BAD_VALUE; arrive(0, 0, 13) = BAD_VALUE;"
            + "arrive(0, 0, MIN) = BAD_VALUE; arrive(0, 0, MAX) = BAD_VALUE; arrive(MAX, MAX, MAX) = BAD_INDEX;"
            + "arrive(MIN, MIN, MIN) = BAD_INDEX").play("arrive(0, 0, 1) = 1");
    }

    private static void strictPriority() {
        new Script(A, "promise 14, strict priority").play("arrive(0, 2, 3) = 0; arrive(0, 1, 2) = 1; arrive(0, 0, 6) = 2; arrive(1, 2, 1) = 3;"
            + "ticks(1) = 1; departed(1) = 1; credit(1) = 0; credit(0) = 4; departed(0) = 0; ticks(1) = 2; queueLength(0, 0) = 0;"
            + "queueLength(0, 1) = 0; queueLength(0, 2) = 1; credit(0) = 0; ticks(1) = 1; credit(0) = 0; departed(0) = 3; time() = 3;"
            + "ticks(20) = 0; time() = 23; credit(0) = 0; admitted() = 4; freeRuns() = 1");
        new Script(A, "promise 14, a higher priority that is too large holds back the lower").play("setScheduler(0, false, 2) = 4;"
            + "arrive(0, 1, 5) = 0; arrive(0, 2, 1) = 1; ticks(2) = 0; credit(0) = 4; ticks(1) = 2; credit(0) = 0");
        new Script(A, "promise 14, first in, first out").play("arrive(2, 1, 2) = 0; arrive(2, 1, 3) = 1; arrive(2, 1, 4) = 2; ticks(1) = 1;"
            + "packetAt(2, 1, 0) = 1; credit(2) = 2; ticks(1) = 1; packetAt(2, 1, 0) = 2; credit(2) = 3; ticks(1) = 1; credit(2) = 0");
        new Script(A, "promise 14, no rate").play("setScheduler(0, false, 0) = 4; arrive(0, 0, 1) = 0; ticks(20) = 0; credit(0) = 0;"
            + "setScheduler(0, false, 16) = 0; arrive(0, 0, 12) = 1; ticks(1) = 2");
    }

    private static void roundRobin() {
        new Script(A, "promise 14, deficit round robin").play("setScheduler(0, true, 16) = 4; setQuantum(0, 0, 3) = 4; setQuantum(0, 1, 5) = 4;"
            + "setQuantum(0, 2, 1) = 4; arrive(0, 0, 3) = 0; arrive(0, 0, 4) = 1; arrive(0, 1, 5) = 2; arrive(0, 1, 8) = 3;"
            + "arrive(0, 2, 2) = 4; ticks(1) = 4; queueLength(0, 0) = 0; queueLength(0, 1) = 1; queueLength(0, 2) = 0; credit(0) = 2;"
            + "deficit(0, 0) = 0; deficit(0, 1) = 10; ticks(1) = 1; deficit(0, 1) = 0; credit(0) = 0");
        new Script(A, "promise 14, the flag is kept between ticks").play("setScheduler(0, true, 1) = 4; arrive(0, 0, 4) = 0; arrive(0, 1, 1) = 1;"
            + "ticks(1) = 0; deficit(0, 0) = 4; ticks(2) = 0; deficit(0, 0) = 4; credit(0) = 3; ticks(1) = 1; deficit(0, 0) = 0;"
            + "deficit(0, 1) = 4; ticks(1) = 1; deficit(0, 1) = 0");
        new Script(A, "promise 14, the turn starts anew when the port is empty").play("setScheduler(0, true, 1) = 4; arrive(0, 2, 1) = 0;"
            + "ticks(1) = 1; arrive(0, 2, 2) = 1; arrive(0, 0, 2) = 2; ticks(2) = 1; queueLength(0, 0) = 0; queueLength(0, 2) = 1;"
            + "flush(0) = 1; arrive(0, 2, 1) = 3; arrive(0, 0, 1) = 4; ticks(1) = 1; queueLength(0, 0) = 0; queueLength(0, 2) = 1");
        new Script(A, "promise 14, the turn goes on from an emptied queue").play("setScheduler(0, true, 2) = 4; arrive(0, 0, 2) = 0;"
            + "arrive(0, 1, 2) = 1; ticks(1) = 1; deficit(0, 1) = 4; arrive(0, 0, 2) = 2; ticks(1) = 1; queueLength(0, 1) = 0;"
            + "queueLength(0, 0) = 1");
    }

    private static void tanksAndPauses() {
        new Script(A, "promise 14, tanks").play("setAlpha(0, 0, 0) = 8; setBurst(0, 0, 10, 4) = 0; arrive(0, 0, 9) = 0; burstTank(0, 0) = 1;"
            + "ticks(1) = 0; burstTank(0, 0) = 5; ticks(1) = 0; burstTank(0, 0) = 9; ticks(1) = 1; burstTank(0, 0) = 10; ticks(1) = 0;"
            + "burstTank(0, 0) = 10");
        String paused = "reset(32, 2) = 64; setHeadroom(0, 4) = 0; setLossless(0, 0, true) = 0; setScheduler(0, false, 0) = 4;"
            + "setAlpha(0, 0, 1) = 8; arrive(0, 0, 3) = 0; sharedCells(0, 0) = 3; arrive(0, 0, 2) = 1; isPaused(0, 0) = 1;";
        new Script(A, "promise 14, pauses").play(paused).play("setAlpha(0, 0, 64) = 1; ticks(1) = 0; isPaused(0, 0) = 1;"
            + "setScheduler(0, false, 3) = 0; ticks(1) = 1; headroomCells(0, 0) = 0; sharedCells(0, 0) = 2; isPaused(0, 0) = 0;"
            + "pauses(0, 0) = 1");
        new Script(A, "promise 14, the shared cells plus 2").play(paused).play("setScheduler(0, false, 3) = 0; setAlpha(0, 0, 0) = 1; ticks(1) = 1;"
            + "headroomCells(0, 0) = 0; sharedCells(0, 0) = 2; isPaused(0, 0) = 1; setScheduler(0, false, 0) = 3; freeShared() = 26;"
            + "ticks(1) = 0; isPaused(0, 0) = 1; setAlpha(0, 0, 1) = 0; threshold(0, 0) = 3; ticks(1) = 0; isPaused(0, 0) = 1;"
            + "setHeadroom(0, 0) = 4; setReserve(1, 1) = 0; setAlpha(0, 0, 1) = 1; threshold(0, 0) = 3; ticks(1) = 0; isPaused(0, 0) = 1;"
            + "setReserve(1, 14) = 1; setAlpha(0, 0, 2) = 1; threshold(0, 0) = 4; ticks(1) = 0; isPaused(0, 0) = 0");
    }

    private static void tickErrors() {
        new Script(A, "promise 14, errors").play("arrive(0, 0, 9) = 0").playUnchanged("ticks(0) = BAD_VALUE; ticks(21) = BAD_VALUE;"
            + "ticks(-1) = BAD_VALUE; ticks(MIN) = BAD_VALUE; ticks(MAX) = BAD_VALUE").play("ticks(20) = 1; time() = 20");
    }

    private static void flush() {
        new Script(A, "promise 15").play("setScheduler(0, true, 1) = 4; arrive(0, 0, 5) = 0; arrive(0, 1, 4) = 1; arrive(0, 1, 3) = 2;"
            + "arrive(0, 2, 2) = 3; arrive(1, 0, 9) = 4; ticks(1) = 0; credit(0) = 1; flush(0) = 4; losses(0, 9) = 4; lostCells(0) = 14;"
            + "losses(0, 8) = 0; credit(0) = 0; deficit(0, 0) = 0; deficit(0, 1) = 0; queueLength(0, 1) = 0; queueLength(1, 0) = 1;"
            + "losses(1, 9) = 0; freeShared() = 55; departed(0) = 0; lossCause(0) = NONE; flush(0) = 0; losses(0, 9) = 4;"
            + "freeRuns() = 2; admitted() = 5; fragments(0) = BAD_INDEX");
        new Script(A, "promise 15, errors").play("arrive(3, 0, 9) = 0").playUnchanged("flush(-1) = BAD_INDEX; flush(4) = BAD_INDEX;"
            + "flush(MIN) = BAD_INDEX; flush(MAX) = BAD_INDEX; flush(0) = 0").play("flush(3) = 1");
    }

    private static void traffic() {
        // Seed 0 gives s = 12345 (d = 0), then s = 1406932606 (d = 21468), then s = 654583775 (d = 9988).
        new Script(A, "promise 16, one arrival").play("traffic(0, 1, 1) = 0; time() = 1; admitted() = 1; departed(0) = 1");
        new Script(A, "promise 16, three arrivals").play("setScheduler(0, false, 0) = 4; traffic(0, 1, 3) = 0; admitted() = 3;"
            + "packetAt(0, 0, 0) = 0; fragmentLength(0, 0) = 1; packetAt(0, 1, 0) = 1; fragmentLength(1, 0) = 11;"
            + "packetAt(0, 0, 1) = 2; fragmentLength(2, 0) = 1; time() = 1");
        new Script(A, "promise 16, more ports").play("reset(64, 5) = 64; setScheduler(3, false, 0) = 4; setScheduler(0, false, 0) = 4;"
            + "traffic(0, 3, 1) = 0; time() = 3; packetAt(3, 1, 0) = 1; packetAt(3, 0, 0) = 2; packetAt(0, 0, 0) = 0");
        new Script(A, "promise 16, losses").play("reset(16, 1) = 64; setAlpha(0, 1, 0) = 8; traffic(0, 2, 2) = 2; losses(0, 3) = 2;"
            + "lostCells(0) = 19; lossCause(2) = OVER_THRESHOLD");
        new Script(A, "promise 16, edges").play("traffic(MAX, 16, 3) = 10; time() = 16; traffic(0, 16, 1) = 0; time() = 32");
        new Script(A, "promise 16, errors").playUnchanged("traffic(-1, 1, 1) = BAD_VALUE; traffic(MIN, 1, 1) = BAD_VALUE;"
            + "traffic(0, 0, 1) = BAD_VALUE; traffic(0, 17, 1) = BAD_VALUE; traffic(0, 1, 0) = BAD_VALUE; traffic(0, 1, 4) = BAD_VALUE;"
            + "traffic(0, MAX, 1) = BAD_VALUE; traffic(0, 1, MIN) = BAD_VALUE");
    }
}
