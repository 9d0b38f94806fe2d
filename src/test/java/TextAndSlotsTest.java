/** Promises 49 to 55: the text, the slots and the checksum. */
public final class TextAndSlotsTest {
    private static final Answers A = new Answers();
    private static final int FINE = SharedPacketBuffer.NONE;

    public static void main(String[] args) {
        append();
        clearText();
        faultsOfArrivals();
        faultsOfOtherOrders();
        faultsOfPorts();
        run();
        slots();
        slotsKeepFragmentsAndLosses();
        slotsKeepTheTurn();
        checksum();
        A.end("TextAndSlotsTest");
    }

    private static void append() {
        Script s = new Script(A, "promise 49");
        s.play("append(0) = 1; append(127) = 2").playUnchanged("append(128) = BAD_VALUE; append(-1) = BAD_VALUE; append(MIN) = BAD_VALUE;"
            + "append(MAX) = BAD_VALUE").play("append(65) = 3; clearText() = 3");
        for (int i = 1; i <= 120; i++) {
            s.play("append(59) = " + i);
        }
        s.playUnchanged("append(59) = NO_ROOM; append(128) = BAD_VALUE; append(-1) = BAD_VALUE").play("clearText() = 120; append(97) = 1");
    }

    private static void clearText() {
        new Script(A, "promise 50").play("clearText() = 0").write("t1;").play("clearText() = 3; clearText() = 0; faultPosition() = NONE;"
            + "run() = 0; time() = 0");
    }

    private static void faultsOfArrivals() {
        new Script(A, "promise 51, arrivals").fault("", FINE).fault("a001;", FINE).fault("a3212;", FINE).fault("a019;a0110;a0211;", FINE)
            .fault("a001*2;", FINE).fault("a0012*9;", FINE).fault("a", 1).fault("a0", 2).fault("a00", 3).fault("a001", 4)
            .fault("a0012", 5).fault("a4", 1).fault("a401;", 1).fault("a ", 1).fault("a;", 1).fault("a03", 2).fault("a031;", 2)
            .fault("a0;", 2).fault("a09", 2).fault("a00;", 3).fault("a00*2;", 3).fault("a000;", 3).fault("a000", 3).fault("a0001;", 3)
            .fault("a0013;", 3).fault("a0013", 3).fault("a0099x", 3).fault("a00123;", 3).fault("a00100;", 3).fault("a00012;", 3)
            .fault("a001x", 4).fault("a001,", 4).fault("a001 ;", 4).fault("a001*", 5).fault("a001*;", 5).fault("a001*x", 5)
            .fault("a001*1;", 5).fault("a001*0;", 5).fault("a001*02;", 5).fault("a001*10;", 5).fault("a001*22", 5).fault("a001*200;", 5)
            .fault("a001*2", 6).fault("a001*2*2;", 6).fault("a001**2;", 5).fault("a0012*9x", 7).fault("a0013*9;", 3).fault("a0013*1;", 3)
            .fault("a0014294967297;", 3).fault("a001*8589934594;", 5);
    }

    private static void faultsOfOtherOrders() {
        new Script(A, "promise 51, other orders").fault("t1;", FINE).fault("t9;t10;t19;t20;", FINE).fault("f0;", FINE).fault("f3;", FINE)
            .fault("g0,1;", FINE).fault("g3,32;g2,9;g1,10;", FINE).fault("t1;a001;f0;g0,1;t1;", FINE)
            .fault("t", 1).fault("t;", 1).fault("t0;", 1).fault("t0", 1).fault("t01;", 1).fault("t21;", 1).fault("t21", 1).fault("t99", 1)
            .fault("t100;", 1).fault("t1", 2).fault("t20", 3).fault("t2,", 2).fault("t2*2;", 2).fault("t-1;", 1)
            .fault("f", 1).fault("f;", 1).fault("f4;", 1).fault("f0", 2).fault("f00;", 2).fault("f0,", 2).fault("f01;", 2)
            .fault("g", 1).fault("g;", 1).fault("g4,1;", 1).fault("g0", 2).fault("g0;", 2).fault("g01;", 2).fault("g0,", 3).fault("g0,;", 3)
            .fault("g0,0;", 3).fault("g0,01;", 3).fault("g0,33;", 3).fault("g0,100;", 3).fault("g0,1", 4).fault("g0,32", 5).fault("g0,1*2;", 4)
            .fault(";", 0).fault(" t1;", 0).fault("x", 0).fault("A001;", 0).fault("1", 0).fault("*", 0).fault("\u0000", 0).fault("\u007f", 0)
            .fault("t1;;", 3).fault("t1; ", 3).fault("t1;a", 4).fault("t1;t2;x", 6).fault("f0;g0,1;t21;", 9).fault("t1:", 2).fault("t/", 1)
            .fault("t1\u0000;", 2).fault("t:;", 1).fault("f/;", 1).fault("f:;", 1);
        Script full = new Script(A, "promise 51, 120 bytes");
        full.fault("t1;".repeat(40), FINE).play("clearText() = 120").fault("t1;".repeat(39) + "t1", 119).fault("t1;".repeat(39) + "t10", 120)
            .fault("t" + "1".repeat(119), 1).fault("a001*" + "2".repeat(115), 5);
    }

    private static void faultsOfPorts() {
        new Script(A, "promise 51, the ports that exist when it is read").play("reset(16, 1) = 64").fault("f0;f1;", 4).fault("a001;a101;", 6)
            .fault("g0,1;g1,1;", 6).play("reset(16, 2) = 16; faultPosition() = NONE; reset(128, 6) = 16").fault("f5;f6;", 4)
            .fault("a521;a621;", 6).fault("a5212*9;g5,32;t20;f5;", FINE).fault("f9;", 1);
    }

    private static void run() {
        new Script(A, "promise 52").write("a006*3;t2;a105;").play("run() = 0; admitted() = 4; time() = 2; queueLength(0, 0) = 2; departed(0) = 1;"
            + "credit(0) = 2; queueLength(1, 0) = 1; run() = 0; time() = 4; admitted() = 8; clearText() = 15");
        new Script(A, "promise 52, flush and grant").write("g2,9;a2112;f2;a211;g0,1;g1,32;").play("run() = 0; grantOf(2) = 0; grantOf(0) = 1;"
            + "grantOf(1) = 32; losses(2, 9) = 1; lostCells(2) = 12; sharedPool() = 31; sharedCells(2, 1) = 1; guaranteedCells(2, 1) = 0;"
            + "time() = 0; admitted() = 2");
        new Script(A, "promise 52, losses").play("reset(16, 2) = 64; setAlpha(0, 1, 0) = 8").write("a012;a002;a011*5;a103;").play("run() = 6;"
            + "losses(0, 3) = 6; lostCells(0) = 7; admitted() = 2; lossCause(2) = OVER_THRESHOLD; run() = 6; losses(0, 3) = 12");
        new Script(A, "promise 52, a grant without room").play("reset(16, 3) = 64; setReserve(0, 14) = 0").write("g1,2;g2,3;t3;g2,1;a111;")
            .play("run() = 0; grantOf(1) = 2; grantOf(2) = 0; time() = 3; admitted() = 1; guaranteedCells(1, 1) = 1");
        new Script(A, "promise 52, faults").play("run() = 0").write("a001;t1;x").playUnchanged("run() = -1008; faultPosition() = 8")
            .play("clearText() = 9").write("t").playUnchanged("run() = -1001").play("clearText() = 1").write("?").playUnchanged("run() = -1000");
        new Script(A, "promise 52, the longest text").play("reset(128, 1) = 64; setAlpha(0, 0, 64) = 8").write("a001*9;".repeat(17))
            .play("run() = 39; admitted() = 114; clearText() = 119");
        new Script(A, "promise 52, many ticks").write("t20;".repeat(30)).play("run() = 0; time() = 600; clearText() = 120");
    }

    private static void slots() {
        String busy = "setReserve(0, 3) = 0; setHeadroom(0, 4) = 0; setAlpha(0, 2, 0) = 8; setBurst(0, 0, 9, 8) = 0;"
            + "setLossless(0, 2, true) = 0; setScheduler(0, true, 3) = 4; setQuantum(0, 0, 3) = 4; setPushOut(true) = 0;"
            + "grant(1, 2) = NONE; grant(0, 2) = NONE; arrive(0, 2, 9) = 0; arrive(0, 2, 2) = LOST; arrive(0, 0, 5) = 1;"
            + "arrive(0, 1, 3) = 2; ticks(1) = 1; flush(1) = 0;";
        String spoil = "reset(100, 6) = 64; arrive(5, 1, 9) = 0; setPushOut(false) = 0; setAlpha(0, 2, 9) = 8; setQuantum(0, 0, 1) = 4;"
            + "setScheduler(0, false, 9) = 4; ticks(7) = 1;";
        // Turn, flag, deficits, ages of grants and all parameters show in what follows.
        String after = "time() = 1; setPushOut(true) = 1; setAlpha(0, 2, 0) = 0; setQuantum(0, 0, 3) = 3; credit(0) = 0; deficit(0, 0) = 6;"
            + "deficit(0, 1) = 0; isPaused(0, 2) = 1; pauses(0, 2) = 1; lossCause(1) = HEADROOM_FULL; losses(0, 5) = 1; lostCells(0) = 2;"
            + "departed(0) = 1; arrive(0, 1, 1) = 3; setLossless(0, 2, true) = 1; setScheduler(0, true, 3) = 3; setHeadroom(0, 4) = 4;"
            + "setReserve(0, 3) = 3; setBurst(0, 0, 9, 8) = 9; grant(2, 1) = 1; fragmentStart(1, 0) = 9; freeRuns() = 1; runStart(0) = 15;";
        Script plain = new Script(A, "promises 53 and 54, without a slot");
        plain.play(busy).play("save(0) = 1");
        Script saved = new Script(A, "promises 53 and 54");
        saved.play(busy).play("save(0) = 1").play(spoil).play("restore(0) = 1").sameAs(plain);
        plain.play("arrive(0, 1, 1) = 3; grant(2, 1) = 1; ticks(4) = 2");
        saved.play("arrive(0, 1, 1) = 3; grant(2, 1) = 1; ticks(4) = 2").sameAs(plain);
        saved.play("restore(0) = 1; queueLength(0, 1) = 0; queueLength(0, 0) = 1; queueLength(0, 2) = 1; restore(0) = 1");
        new Script(A, "promises 53 and 54, everything is kept").play(busy).play("save(1) = 1").play(spoil).play("restore(1) = 1").play(after);
        new Script(A, "promises 53 and 54, two slots").play("ticks(1) = 0; save(0) = 1; ticks(1) = 0; save(1) = 2; ticks(1) = 0; restore(0) = 1;"
            + "time() = 1; restore(1) = 2; time() = 2; save(0) = 2; reset(16, 1) = 64; restore(0) = 2; sharedPool() = 64; arrive(0, 0, 3) = 0;"
            + "restore(1) = 2; admitted() = 0; restore(0) = 2; admitted() = 0");
        new Script(A, "promises 53 and 54, the text stays").write("t1;").play("save(0) = 0; clearText() = 3").write("f0").play("restore(0) = 0;"
            + "clearText() = 2; save(1) = 0").write("t2").play("restore(1) = 0; clearText() = 2");
        new Script(A, "promises 53 and 54, errors").play("arrive(0, 0, 7) = 0; ticks(1) = 0").playUnchanged("save(-1) = BAD_INDEX; save(2) = BAD_INDEX;"
            + "save(MIN) = BAD_INDEX; save(MAX) = BAD_INDEX; restore(-1) = BAD_INDEX; restore(2) = BAD_INDEX; restore(MIN) = BAD_INDEX;"
            + "restore(MAX) = BAD_INDEX; restore(0) = NONE; restore(1) = NONE").play("save(1) = 1").playUnchanged("restore(0) = NONE; restore(1) = 1");
    }

    private static void slotsKeepFragmentsAndLosses() {
        new Script(A, "promises 53 and 54, fragments, losses and refusals").play("reset(16, 3) = 64; setAlpha(0, 0, 64) = 8;"
            + "setAlpha(1, 0, 64) = 8; setAlpha(2, 0, 64) = 8; arrive(0, 0, 4) = 0; arrive(1, 0, 3) = 1; arrive(0, 0, 3) = 2;"
            + "arrive(2, 0, 3) = 3; flush(0) = 2; arrive(1, 0, 8) = 4; setPushOut(true) = 0; arrive(1, 2, 1) = 5; arrive(1, 0, 2) = 6;"
            + "arrive(2, 2, 1) = LOST; save(0) = 0")
            .play("flush(1) = 3; flush(2) = 1; setAlpha(2, 0, 0) = 64; setPushOut(false) = 1; arrive(2, 0, 3) = LOST;"
            + "lossCause(0) = PUSH_OUT_OFF; lossCause(2) = OVER_THRESHOLD; arrive(0, 0, 6) = 7; arrive(0, 0, 5) = 8; arrive(0, 1, 1) = 9")
            .play("restore(0) = 0; lossCause(0) = NO_VICTIM; lossCause(2) = POOL_EMPTY; losses(0, 9) = 2; losses(1, 9) = 0;"
            + "losses(1, 8) = 1; losses(2, 9) = 0; losses(2, 2) = 1; losses(2, 3) = 0; fragments(4) = 3; fragmentStart(4, 0) = 0;"
            + "fragmentLength(4, 0) = 4; fragmentStart(4, 1) = 7; fragmentLength(4, 1) = 3; fragmentStart(4, 2) = 13;"
            + "fragmentLength(4, 2) = 1; fragments(6) = 1; fragmentStart(6, 0) = 14; fragmentLength(6, 0) = 2; freeRuns() = 0;"
            + "flush(2) = 1; arrive(1, 0, 1) = 7; packetAt(1, 0, 3) = 7; queueLength(1, 0) = 4; fragmentStart(7, 0) = 10");
    }

    private static void slotsKeepTheTurn() {
        new Script(A, "promises 53 and 54, turn, flag and refill").play("setScheduler(0, true, 1) = 4; arrive(0, 0, 2) = 0;"
            + "arrive(0, 1, 4) = 1; arrive(0, 1, 4) = 2; ticks(3) = 1; deficit(0, 1) = 4; credit(0) = 1; setBurst(0, 0, 9, 2) = 0;"
            + "setAlpha(0, 0, 0) = 8; setReserve(0, 1) = 0; arrive(0, 0, 5) = 3; burstTank(0, 0) = 5; save(1) = 3; flush(0) = 3;"
            + "setBurst(0, 0, 0, 0) = 5; restore(1) = 3; ticks(1) = 0; burstTank(0, 0) = 7; deficit(0, 1) = 4; deficit(0, 0) = 0;"
            + "ticks(2) = 1; queueLength(0, 1) = 1; deficit(0, 1) = 4; deficit(0, 0) = 4; credit(0) = 0; burstTank(0, 0) = 9");
    }

    private static void checksum() {
        new Script(A, "promise 55, empty").play("reset(16, 1) = 64").checksum(0, 0, 16, 16, 0, 0, 0, 0, 0,
            0, 0, 0, 0, 0, 0, 0, 0, 0, 0, 0, 0, 0, 0, 0, 0, 0, 0, 0, 0, 0, 0, 16);
        new Script(A, "promise 55, a guarantee that is free").play("reset(16, 1) = 64; setReserve(0, 5) = 0; grant(0, 2) = NONE; arrive(0, 0, 1) = 0")
            .checksum(0, 1, 9, 9, 6, 2, 0, 0, 0, 1, 0, 0, 0, 0, 0, 1, 0, 0, 0, 0, 0, 0, 0, 0, 0, 0, 0, 0, 0, 0, 0, 0, 1, 15);
        new Script(A, "promise 55").play("reset(16, 2) = 64; setReserve(0, 2) = 0; grant(1, 3) = NONE; setHeadroom(1, 2) = 0; setBurst(0, 1, 5, 0) = 0;"
            + "setLossless(1, 2, true) = 0; setAlpha(1, 2, 0) = 8; arrive(0, 1, 4) = 0; arrive(1, 2, 4) = 1; setScheduler(0, true, 1) = 4;"
            + "setScheduler(1, false, 3) = 4; ticks(1) = 0; arrive(1, 0, 12) = LOST")
            .checksum(1, 2, 7, 9,
                0, 0, 1, 0, 0,
                0, 0, 0, 0, 0, 0, 0,
                2, 2, 0, 5, 0, 4, 1, 0, 0,
                0, 0, 0, 0, 0, 0, 0,
                0, 3, 3, 0, 12,
                0, 0, 0, 0, 0, 0, 0,
                0, 0, 0, 0, 0, 0, 0,
                3, 0, 1, 0, 1, 0, 1, 1, 4,
                8, 8);
        new Script(A, "promise 55, fragments and runs").play("reset(16, 2) = 64; setAlpha(0, 0, 64) = 8; setAlpha(1, 0, 64) = 8; arrive(0, 0, 4) = 0;"
            + "arrive(1, 0, 3) = 1; arrive(0, 0, 2) = 2; arrive(1, 0, 1) = 3; arrive(1, 0, 1) = 4; ticks(1) = 3; arrive(0, 0, 11) = 5")
            .checksum(1, 6, 2, 16,
                0, 0, 0, 1, 0,
                0, 13, 0, 0, 0, 0, 2, 2, 7, 5, 0, 11,
                0, 0, 0, 0, 0, 0, 0,
                0, 0, 0, 0, 0, 0, 0,
                0, 0, 0, 2, 0,
                0, 1, 0, 0, 0, 0, 1, 4, 10,
                0, 0, 0, 0, 0, 0, 0,
                0, 0, 0, 0, 0, 0, 0,
                9, 1, 15, 1);
    }
}
