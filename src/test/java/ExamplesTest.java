/** The five examples that the document gives under 'Terms'. */
public final class ExamplesTest {
    private static final Answers A = new Answers();

    public static void main(String[] args) {
        new Script(A, "example 1").play("reset(32, 2) = 64; setAlpha(0, 0, 4) = 8; threshold(0, 0) = 16;"
            + "arrive(0, 0, 8) = 0; freeShared() = 24; threshold(0, 0) = 12; arrive(0, 0, 12) = -6;"
            + "lossCause(2) = 3; losses(0, 3) = 1; largestAdmissible(0, 0) = 4; arrive(0, 3, 1) = -1;"
            + "arrive(0, 2, 13) = -2");
        new Script(A, "example 2").play("reset(16, 1) = 64; setAlpha(0, 2, 64) = 8; setAlpha(0, 0, 64) = 8;"
            + "arrive(0, 2, 6) = 0; arrive(0, 2, 6) = 1; arrive(0, 2, 4) = 2; arrive(0, 0, 5) = -6;"
            + "setPushOut(true) = 0; stageFor(0, 0, 5) = 4; arrive(0, 0, 5) = 3; losses(0, 8) = 2;"
            + "queueLength(0, 2) = 1; fragmentStart(3, 0) = 6; freeRuns() = 1");
        new Script(A, "example 3").play("setLossless(1, 1, true) = 0; setHeadroom(1, 6) = 0; setAlpha(1, 1, 0) = 8;"
            + "arrive(1, 1, 4) = 0; isPaused(1, 1) = 1; headroomCells(1, 1) = 4; arrive(1, 1, 4) = -6;"
            + "lossCause(1) = 5; setAlpha(1, 1, 8) = 0; ticks(1) = 1; isPaused(1, 1) = 0; pauses(1, 1) = 1");
        new Script(A, "example 4").play("setScheduler(0, true, 5) = 4; setQuantum(0, 0, 2) = 4; arrive(0, 0, 4) = 0;"
            + "arrive(0, 1, 4) = 1; drainTicks(0) = 2; ticks(1) = 1; credit(0) = 1; deficit(0, 0) = 4;"
            + "queueLength(0, 1) = 0; ticks(1) = 1; departed(0) = 2; drainTicks(0) = 0");
        new Script(A, "example 5").play("grant(0, 10) = -5; grant(1, 12) = -5; arrive(0, 1, 9) = 0; grant(2, 6) = 0;"
            + "guaranteedCells(0, 1) = 0; sharedCells(0, 1) = 9; grant(1, 32) = -5; grant(3, 32) = 1;"
            + "sharedPool() = 26; withdraw(0) = -5; equilibrium(3, false) = 26; equilibrium(3, true) = 3");
        A.end("ExamplesTest");
    }
}
