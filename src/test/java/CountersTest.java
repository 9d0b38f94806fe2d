/** Promises 17 to 35: the counters. */
public final class CountersTest {
    private static final Answers A = new Answers();

    public static void main(String[] args) {
        pools();
        ofPorts();
        ofQueues();
        losses();
        lossCause();
        departedAdmittedTime();
        badPortsAndQueues();
        A.end("CountersTest");
    }

    private static void pools() {
        new Script(A, "promises 17 and 18").play("reset(100, 3) = 64; freeShared() = 100; sharedPool() = 100; setReserve(0, 10) = 0;"
            + "setHeadroom(1, 7) = 0; grant(2, 5) = NONE; sharedPool() = 78; freeShared() = 78; arrive(0, 0, 12) = 0;"
            + "sharedPool() = 78; freeShared() = 76; arrive(1, 1, 6) = 1; arrive(2, 2, 6) = 2; freeShared() = 69; flush(1) = 1;"
            + "freeShared() = 75; sharedPool() = 78; withdraw(2) = 5; sharedPool() = 83; freeShared() = 75");
    }

    private static void ofPorts() {
        new Script(A, "promises 19 and 20").play("setReserve(3, 6) = 0; freeGuarantee(3) = 6; grant(3, 4) = NONE; freeGuarantee(3) = 10;"
            + "grantOf(3) = 4; grantOf(2) = 0; arrive(3, 0, 3) = 0; arrive(3, 2, 2) = 1; freeGuarantee(3) = 5; freeGuarantee(2) = 0;"
            + "arrive(3, 1, 7) = 2; freeGuarantee(3) = 0; withdraw(3) = 4; freeGuarantee(3) = 0; grantOf(3) = 0; ticks(2) = 1;"
            + "freeGuarantee(3) = 3");
        new Script(A, "promise 28").play("setScheduler(2, false, 3) = 4; ticks(2) = 0; credit(2) = 0; arrive(2, 1, 11) = 0; credit(2) = 0;"
            + "ticks(3) = 0; credit(2) = 9; credit(1) = 0; arrive(2, 0, 2) = 1; ticks(1) = 1; credit(2) = 10; ticks(1) = 1; credit(2) = 0");
    }

    private static void ofQueues() {
        new Script(A, "promise 21").play("setAlpha(1, 0, 1) = 8; threshold(1, 0) = 8; setAlpha(1, 0, 3) = 1; threshold(1, 0) = 24;"
            + "arrive(0, 0, 1) = 0; threshold(1, 0) = 23; threshold(1, 1) = 63; setAlpha(1, 1, 64) = 8; threshold(1, 1) = 504;"
            + "setAlpha(1, 1, 0) = 64; threshold(1, 1) = 0");
        new Script(A, "promises 22 to 24").play("setReserve(0, 3) = 0; setHeadroom(0, 9) = 0; setLossless(0, 1, true) = 0;"
            + "setAlpha(0, 1, 1) = 8; arrive(0, 1, 5) = 0; guaranteedCells(0, 1) = 3; sharedCells(0, 1) = 2; headroomCells(0, 1) = 0;"
            + "arrive(0, 1, 6) = 1; guaranteedCells(0, 1) = 3; sharedCells(0, 1) = 2; headroomCells(0, 1) = 6; arrive(0, 2, 4) = 2;"
            + "sharedCells(0, 2) = 4; guaranteedCells(0, 2) = 0; headroomCells(0, 2) = 0; sharedCells(0, 0) = 0; sharedCells(1, 1) = 0");
        new Script(A, "promise 25").play("setBurst(0, 2, 7, 2) = 0; burstTank(0, 2) = 7; setAlpha(0, 2, 0) = 8; arrive(0, 2, 6) = 0;"
            + "burstTank(0, 2) = 1; ticks(1) = 0; burstTank(0, 2) = 3; ticks(20) = 1; burstTank(0, 2) = 7; burstTank(0, 1) = 0");
        new Script(A, "promises 26 and 27").play("reset(16, 2) = 64; setHeadroom(1, 6) = 0; setLossless(1, 2, true) = 0; setAlpha(1, 2, 0) = 8;"
            + "isPaused(1, 2) = 0; arrive(1, 2, 2) = 0; isPaused(1, 2) = 1; pauses(1, 2) = 1; arrive(1, 2, 2) = 1; pauses(1, 2) = 1;"
            + "isPaused(1, 1) = 0; pauses(1, 1) = 0; isPaused(0, 2) = 0; flush(1) = 2; isPaused(1, 2) = 1; setAlpha(1, 2, 2) = 0;"
            + "threshold(1, 2) = 2; ticks(1) = 0; isPaused(1, 2) = 0; pauses(1, 2) = 1; arrive(1, 2, 3) = 2; isPaused(1, 2) = 1;"
            + "pauses(1, 2) = 2");
        new Script(A, "promise 29").play("setScheduler(0, true, 1) = 4; setQuantum(0, 1, 3) = 4; arrive(0, 1, 5) = 0; deficit(0, 1) = 0;"
            + "ticks(1) = 0; deficit(0, 1) = 6; ticks(4) = 1; deficit(0, 1) = 0; arrive(0, 1, 2) = 1; arrive(0, 1, 1) = 2; ticks(2) = 1;"
            + "deficit(0, 1) = 1; deficit(0, 0) = 0; ticks(1) = 1; deficit(0, 1) = 0");
    }

    private static void losses() {
        new Script(A, "promises 30 and 31").play("reset(16, 2) = 64; setPushOut(true) = 0; setAlpha(0, 2, 64) = 8; setAlpha(0, 0, 64) = 8;"
            + "setAlpha(0, 1, 0) = 8; arrive(0, 1, 2) = LOST; losses(0, 3) = 1; lostCells(0) = 2; arrive(0, 2, 9) = 0; arrive(0, 2, 8) = LOST;"
            + "losses(0, 2) = 1; lostCells(0) = 10; arrive(0, 0, 8) = 1; losses(0, 8) = 1; lostCells(0) = 19; flush(0) = 1; losses(0, 9) = 1;"
            + "lostCells(0) = 27; losses(0, 2) = 1; losses(0, 3) = 1; losses(0, 5) = 0; setLossless(0, 1, true) = 0; arrive(0, 1, 1) = LOST;"
            + "losses(0, 5) = 1; losses(0, 3) = 1; lostCells(0) = 28; losses(1, 2) = 0; losses(1, 8) = 0; lostCells(1) = 0")
            .playUnchanged("losses(0, 0) = BAD_VALUE; losses(0, 1) = BAD_VALUE; losses(0, 4) = BAD_VALUE; losses(0, 6) = BAD_VALUE;"
            + "losses(0, 7) = BAD_VALUE; losses(0, 10) = BAD_VALUE; losses(0, -1) = BAD_VALUE; losses(0, MIN) = BAD_VALUE;"
            + "losses(0, MAX) = BAD_VALUE; losses(2, 1) = BAD_INDEX; losses(-1, 2) = BAD_INDEX; losses(MAX, MAX) = BAD_INDEX");
    }

    private static void lossCause() {
        new Script(A, "promise 32").play("reset(16, 1) = 64; lossCause(0) = NONE; lossCause(1) = NONE; lossCause(2) = NONE; lossCause(3) = NONE;"
            + "setAlpha(0, 0, 4) = 8; arrive(0, 0, 9) = LOST; lossCause(0) = PUSH_OUT_OFF; lossCause(1) = NOT_LOSSLESS;"
            + "lossCause(2) = OVER_THRESHOLD; lossCause(3) = GUARANTEE_FULL; setAlpha(0, 0, 64) = 4; arrive(0, 0, 12) = 0;"
            + "lossCause(2) = OVER_THRESHOLD; setPushOut(true) = 0; setLossless(0, 0, true) = 0; arrive(0, 0, 5) = LOST;"
            + "lossCause(0) = NO_VICTIM; lossCause(1) = HEADROOM_FULL; lossCause(2) = POOL_EMPTY; lossCause(3) = GUARANTEE_FULL;"
            + "flush(0) = 1; lossCause(0) = NO_VICTIM; reset(16, 1) = 16; lossCause(0) = NONE")
            .playUnchanged("lossCause(-1) = BAD_INDEX; lossCause(4) = BAD_INDEX; lossCause(MIN) = BAD_INDEX; lossCause(MAX) = BAD_INDEX");
        new Script(A, "promise 32, by run()").play("reset(16, 1) = 64; setAlpha(0, 0, 0) = 8").write("a001;").play("run() = 1;"
            + "lossCause(2) = OVER_THRESHOLD; lossCause(4) = BAD_INDEX");
        new Script(A, "promise 32, by traffic()").play("reset(16, 1) = 64; setAlpha(0, 0, 0) = 8; traffic(0, 1, 1) = 1;"
            + "lossCause(2) = OVER_THRESHOLD; lossCause(3) = GUARANTEE_FULL");
        new Script(A, "promise 32, a prediction is no loss").play("setAlpha(0, 0, 0) = 8; stageFor(0, 0, 1) = LOST; burstCapacity(0, 0, 1) = 0;"
            + "largestAdmissible(0, 0) = 0; lossCause(0) = NONE; losses(0, 3) = 0");
    }

    private static void departedAdmittedTime() {
        new Script(A, "promises 33 to 35").play("arrive(0, 0, 1) = 0; arrive(0, 0, 1) = 1; arrive(3, 2, 4) = 2; arrive(3, 2, 4) = 3;"
            + "admitted() = 4; departed(0) = 0; ticks(1) = 3; departed(0) = 2; departed(3) = 1; departed(1) = 0; admitted() = 4; time() = 1;"
            + "flush(3) = 1; departed(3) = 1; setAlpha(0, 0, 0) = 8; arrive(0, 0, 1) = LOST; admitted() = 4; ticks(19) = 0; time() = 20;"
            + "traffic(1, 2, 1) = 0; time() = 22; admitted() = 6; arrive(1, 1, 1) = 6");
    }

    private static void badPortsAndQueues() {
        String[] ofPort = {"freeGuarantee", "grantOf", "credit", "lostCells", "departed", "drainTicks"};
        String[] ofQueue = {"threshold", "guaranteedCells", "sharedCells", "headroomCells", "burstTank", "isPaused", "pauses",
            "deficit", "queueLength", "largestAdmissible"};
        Script s = new Script(A, "a port or queue that does not exist");
        s.play("reset(64, 3) = 64");
        for (String name : ofPort) {
            for (String port : new String[] {"-1", "3", "6", "MIN", "MAX"}) {
                s.playUnchanged(name + "(" + port + ") = BAD_INDEX");
            }
            s.play(name + "(2) = 0");
        }
        for (String name : ofQueue) {
            for (String queue : new String[] {"-1, 0", "3, 0", "0, -1", "0, 3", "2, 3", "MIN, 0", "MAX, 0", "0, MIN", "0, MAX"}) {
                s.playUnchanged(name + "(" + queue + ") = BAD_INDEX");
            }
        }
    }
}
