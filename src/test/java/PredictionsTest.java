/** Promises 44 to 48: the predictions, which change nothing. */
public final class PredictionsTest {
    private static final Answers A = new Answers();

    public static void main(String[] args) {
        stageFor();
        largestAdmissible();
        burstCapacity();
        drainTicks();
        equilibrium();
        A.end("PredictionsTest");
    }

    private static void stageFor() {
        new Script(A, "promise 44").play("reset(24, 2) = 64; setReserve(0, 3) = 0; setHeadroom(0, 4) = 0; setAlpha(0, 0, 2) = 8;"
            + "setLossless(0, 0, true) = 0; setPushOut(true) = 0; arrive(0, 2, 5) = 0; freeShared() = 15; threshold(0, 0) = 3")
            .playUnchanged("stageFor(0, 0, 3) = 2; stageFor(0, 0, 4) = 3; stageFor(0, 0, 5) = 4; stageFor(0, 0, 8) = LOST;"
            + "stageFor(0, 0, 7) = 4; stageFor(0, 1, 12) = 2; stageFor(0, 2, 12) = 2; stageFor(1, 0, 8) = 2; stageFor(1, 0, 12) = 2")
            .play("flush(0) = 1").playUnchanged("stageFor(0, 0, 3) = 1; stageFor(0, 0, 1) = 1; stageFor(0, 0, 4) = 2")
            .playUnchanged("stageFor(2, 0, 1) = BAD_INDEX; stageFor(-1, 0, 0) = BAD_INDEX; stageFor(0, 3, 1) = BAD_INDEX;"
            + "stageFor(0, -1, 13) = BAD_INDEX; stageFor(0, 0, 0) = BAD_VALUE; stageFor(0, 0, 13) = BAD_VALUE;"
            + "stageFor(0, 0, MIN) = BAD_VALUE; stageFor(0, 0, MAX) = BAD_VALUE; stageFor(MAX, MIN, 1) = BAD_INDEX");
    }

    private static void largestAdmissible() {
        new Script(A, "promise 45").playUnchanged("largestAdmissible(3, 2) = 12").play("reset(16, 1) = 64; setAlpha(0, 0, 3) = 8")
            .playUnchanged("largestAdmissible(0, 0) = 6").play("setAlpha(0, 0, 0) = 3; largestAdmissible(0, 0) = 0; setReserve(0, 2) = 0;"
            + "largestAdmissible(0, 0) = 2; setHeadroom(0, 5) = 0; setLossless(0, 0, true) = 0; largestAdmissible(0, 0) = 7;"
            + "setBurst(0, 0, 6, 0) = 0; largestAdmissible(0, 0) = 8; setBurst(0, 0, 9, 0) = 6; largestAdmissible(0, 0) = 11;"
            + "largestAdmissible(0, 1) = 11; largestAdmissible(0, 3) = BAD_INDEX; setReserve(0, 1) = 2; setHeadroom(0, 0) = 5;"
            + "setBurst(0, 0, 0, 0) = 9; largestAdmissible(0, 0) = 1");
        new Script(A, "promise 45, with push-out").play("reset(16, 1) = 64; setAlpha(0, 1, 64) = 8; setAlpha(0, 0, 64) = 8; arrive(0, 0, 5) = 0;"
            + "arrive(0, 1, 9) = 1; largestAdmissible(0, 0) = 2; setPushOut(true) = 0").playUnchanged("largestAdmissible(0, 0) = 11;"
            + "largestAdmissible(0, 1) = 2");
    }

    private static void burstCapacity() {
        new Script(A, "promise 46").play("reset(32, 2) = 64").playUnchanged("burstCapacity(0, 0, 1) = 16; burstCapacity(0, 0, 5) = 3;"
            + "burstCapacity(0, 0, 12) = 1").play("setAlpha(0, 0, 64) = 8; burstCapacity(0, 0, 1) = 29; setBurst(0, 0, 32, 8) = 0;"
            + "burstCapacity(0, 0, 1) = 31; burstCapacity(0, 0, 3) = 10; setAlpha(0, 0, 0) = 64").playUnchanged("burstCapacity(0, 0, 4) = 3");
        new Script(A, "promise 46, guarantee and headroom").play("setReserve(2, 5) = 0; setHeadroom(2, 7) = 0; setAlpha(2, 1, 0) = 8;"
            + "burstCapacity(2, 1, 2) = 2; setLossless(2, 1, true) = 0").playUnchanged("burstCapacity(2, 1, 2) = 6; burstCapacity(2, 1, 12) = 1;"
            + "burstCapacity(2, 1, 1) = 12; isPaused(2, 1) = 0");
        new Script(A, "promise 46, without push-out").play("reset(16, 1) = 64; setPushOut(true) = 0; setAlpha(0, 2, 64) = 8; setAlpha(0, 0, 64) = 8;"
            + "arrive(0, 2, 12) = 0").playUnchanged("burstCapacity(0, 0, 4) = 1; burstCapacity(0, 0, 5) = 0; stageFor(0, 0, 5) = 4")
            .play("setPushOut(true) = 1");
        new Script(A, "promise 46, the largest").play("reset(128, 1) = 64; setReserve(0, 64) = 0; setAlpha(0, 1, 64) = 8; setBurst(0, 1, 32, 0) = 0;"
            + "grant(0, 32) = NONE; setHeadroom(0, 32) = 0; burstCapacity(0, 1, 1) = 96; setLossless(0, 1, true) = 0;"
            + "burstCapacity(0, 1, 1) = 128");
        new Script(A, "promise 46, errors").playUnchanged("burstCapacity(4, 0, 1) = BAD_INDEX; burstCapacity(-1, 0, 0) = BAD_INDEX;"
            + "burstCapacity(0, 3, 1) = BAD_INDEX; burstCapacity(0, -1, 13) = BAD_INDEX; burstCapacity(0, 0, 0) = BAD_VALUE;"
            + "burstCapacity(0, 0, 13) = BAD_VALUE; burstCapacity(0, 0, MIN) = BAD_VALUE; burstCapacity(0, 0, MAX) = BAD_VALUE;"
            + "burstCapacity(MIN, MAX, 1) = BAD_INDEX");
    }

    private static void drainTicks() {
        new Script(A, "promise 47, strict priority").play("drainTicks(0) = 0; arrive(0, 0, 4) = 0; drainTicks(0) = 1; arrive(0, 2, 5) = 1;")
            .playUnchanged("drainTicks(0) = 3; drainTicks(1) = 0").play("ticks(2) = 1; credit(0) = 4").playUnchanged("drainTicks(0) = 1")
            .play("setScheduler(0, false, 0) = 4").playUnchanged("drainTicks(0) = NONE").play("setScheduler(0, false, 1) = 0; drainTicks(0) = 1");
        new Script(A, "promise 47, no rate but enough credit").play("setScheduler(0, false, 3) = 4; arrive(0, 1, 9) = 0; ticks(2) = 0; credit(0) = 6;"
            + "setScheduler(0, false, 0) = 3; arrive(0, 0, 2) = 1; drainTicks(0) = NONE; ticks(1) = 1; drainTicks(0) = NONE;"
            + "setScheduler(0, false, 0) = 0; setPushOut(true) = 0; credit(0) = 4; drainTicks(2) = 0");
        new Script(A, "promise 47, no rate but enough credit for all").play("reset(16, 1) = 64; setPushOut(true) = 0; setAlpha(0, 2, 64) = 8;"
            + "setAlpha(0, 1, 64) = 8; setScheduler(0, false, 6) = 4; arrive(0, 1, 2) = 0; arrive(0, 2, 12) = 1; ticks(1) = 1; credit(0) = 4;"
            + "arrive(0, 1, 4) = 2; setScheduler(0, false, 0) = 6; drainTicks(0) = NONE; arrive(0, 0, 4) = 3; losses(0, 8) = 1;"
            + "queueLength(0, 2) = 0; drainTicks(0) = NONE; ticks(1) = 1; drainTicks(0) = NONE; credit(0) = 0");
        new Script(A, "promise 47, the credit covers what is left").play("reset(16, 1) = 64; setPushOut(true) = 0; setAlpha(0, 2, 64) = 8;"
            + "setAlpha(0, 1, 64) = 8; setScheduler(0, false, 5) = 4; arrive(0, 2, 12) = 0; arrive(0, 1, 3) = 1; ticks(1) = 1; credit(0) = 2;"
            + "setScheduler(0, false, 1) = 5; ticks(2) = 0; credit(0) = 4; setScheduler(0, false, 0) = 1; arrive(0, 1, 1) = 2;"
            + "arrive(0, 1, 3) = 3; drainTicks(0) = NONE; arrive(0, 1, 1) = 4; losses(0, 8) = 1; queueLength(0, 2) = 0;"
            + "credit(0) = 4; drainTicks(0) = NONE");
        new Script(A, "promise 47, one tick with the credit alone").play("reset(16, 1) = 64; setPushOut(true) = 0; setAlpha(0, 2, 64) = 8;"
            + "setAlpha(0, 1, 64) = 8; setScheduler(0, false, 5) = 4; arrive(0, 2, 12) = 0; ticks(2) = 0; credit(0) = 10;"
            + "arrive(0, 1, 4) = 1; arrive(0, 1, 1) = 2; losses(0, 8) = 1; credit(0) = 10").playUnchanged("drainTicks(0) = 1")
            .play("setScheduler(0, true, 0) = 5").playUnchanged("drainTicks(0) = 1").play("arrive(0, 2, 6) = 3").playUnchanged("drainTicks(0) = NONE");
        new Script(A, "promise 47, round robin").play("setScheduler(0, true, 1) = 4; arrive(0, 0, 12) = 0; arrive(0, 1, 12) = 1; arrive(0, 2, 1) = 2")
            .playUnchanged("drainTicks(0) = 25").play("ticks(1) = 1; queueLength(0, 2) = 0").playUnchanged("drainTicks(0) = 24")
            .play("setScheduler(0, true, 0) = 1").playUnchanged("drainTicks(0) = NONE").play("setScheduler(0, true, 16) = 0; drainTicks(0) = 2");
        Script slow = new Script(A, "promise 47, the slowest");
        slow.play("reset(128, 1) = 64; setReserve(0, 64) = 0; grant(0, 32) = NONE; setHeadroom(0, 32) = 0; setLossless(0, 0, true) = 0;"
            + "setScheduler(0, false, 1) = 4");
        for (int i = 0; i < 10; i++) {
            slow.play("arrive(0, 0, 12) = " + i);
        }
        slow.play("arrive(0, 0, 8) = 10; drainTicks(0) = 128; setScheduler(0, true, 1) = 1; drainTicks(0) = 128");
    }

    private static void equilibrium() {
        new Script(A, "promise 48").playUnchanged("equilibrium(0, false) = 64; equilibrium(0, true) = 1; equilibrium(1, false) = 32;"
            + "equilibrium(1, true) = 1; equilibrium(4095, false) = 64; equilibrium(4095, true) = 13; equilibrium(2048, false) = 32;"
            + "equilibrium(4096, false) = BAD_VALUE; equilibrium(4097, true) = BAD_VALUE; equilibrium(-1, false) = BAD_VALUE;"
            + "equilibrium(MIN, true) = BAD_VALUE; equilibrium(MAX, true) = BAD_VALUE")
            .play("setAlpha(1, 2, 5) = 8; setReserve(0, 7) = 0; arrive(2, 0, 9) = 0").playUnchanged("equilibrium(32, false) = 456;"
            + "equilibrium(32, true) = 13; equilibrium(33, false) = 152; equilibrium(33, true) = 7; equilibrium(16, false) = 57;"
            + "equilibrium(16, true) = 2").play("setReserve(0, 55) = 7; equilibrium(7, false) = 9; equilibrium(7, true) = 4;"
            + "flush(2) = 1; setReserve(0, 64) = 55; equilibrium(7, false) = 0; equilibrium(7, true) = 1");
        new Script(A, "promise 48, six ports").play("reset(128, 6) = 64; setAlpha(5, 2, 64) = 8").playUnchanged("equilibrium(131072, false) = 128;"
            + "equilibrium(131072, true) = 9; equilibrium(262143, false) = 64; equilibrium(262143, true) = 13;"
            + "equilibrium(262144, false) = BAD_VALUE; equilibrium(1073741824, false) = BAD_VALUE");
        new Script(A, "promise 48, one port").play("reset(16, 1) = 64").playUnchanged("equilibrium(7, false) = 4; equilibrium(8, false) = BAD_VALUE");
    }
}
