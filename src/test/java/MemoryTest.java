/** Promises 36 to 43: the queues and the memory. */
public final class MemoryTest {
    private static final Answers A = new Answers();

    public static void main(String[] args) {
        queues();
        fragments();
        freeRuns();
        A.end("MemoryTest");
    }

    private static void queues() {
        new Script(A, "promises 36 and 37").play("queueLength(1, 1) = 0; packetAt(1, 1, 0) = BAD_INDEX; arrive(1, 1, 2) = 0; arrive(1, 0, 2) = 1;"
            + "arrive(1, 1, 2) = 2; arrive(1, 1, 2) = 3; queueLength(1, 1) = 3; queueLength(1, 0) = 1; queueLength(1, 2) = 0;"
            + "packetAt(1, 1, 0) = 0; packetAt(1, 1, 1) = 2; packetAt(1, 1, 2) = 3; packetAt(1, 0, 0) = 1; ticks(1) = 2;"
            + "queueLength(1, 1) = 2; packetAt(1, 1, 0) = 2; packetAt(1, 1, 1) = 3")
            .playUnchanged("packetAt(1, 1, 2) = BAD_INDEX; packetAt(1, 1, -1) = BAD_INDEX; packetAt(1, 1, MAX) = BAD_INDEX;"
            + "packetAt(1, 1, MIN) = BAD_INDEX; packetAt(4, 1, 0) = BAD_INDEX; packetAt(-1, 1, 0) = BAD_INDEX;"
            + "packetAt(1, 3, 0) = BAD_INDEX; packetAt(1, -1, 0) = BAD_INDEX; packetAt(1, 0, 0) = BAD_INDEX");
        Script many = new Script(A, "promises 36 and 37, 128 packets");
        many.play("reset(128, 1) = 64; setReserve(0, 64) = 0; grant(0, 32) = NONE; setHeadroom(0, 32) = 0; setLossless(0, 2, true) = 0");
        for (int i = 0; i < 128; i++) {
            many.play("arrive(0, 2, 1) = " + i);
        }
        many.play("queueLength(0, 2) = 128; packetAt(0, 2, 127) = 127; fragmentStart(127, 0) = 127; freeRuns() = 0;"
            + "arrive(0, 2, 1) = LOST; ticks(1) = 4; packetAt(0, 2, 0) = 4; packetAt(0, 2, 123) = 127; packetAt(0, 2, 124) = BAD_INDEX;"
            + "flush(0) = 124; freeRuns() = 1; runLength(0) = 128");
    }

    private static void fragments() {
        // Single cells are free at 0, 2, 4, .. 22 and a run of 8 at 24.
        Script s = new Script(A, "promises 38 to 40");
        s.play("reset(32, 3) = 64; setAlpha(0, 0, 64) = 8; setAlpha(1, 0, 64) = 8; setAlpha(2, 0, 64) = 8");
        for (int i = 0; i < 24; i++) {
            s.play("arrive(" + i % 2 + ", 0, 1) = " + i);
        }
        s.play("flush(0) = 12; freeRuns() = 13; arrive(2, 0, 12) = 24; fragments(24) = 5; fragmentStart(24, 0) = 24; fragmentLength(24, 0) = 8;"
            + "fragmentStart(24, 1) = 0; fragmentLength(24, 1) = 1; fragmentStart(24, 4) = 6; fragmentLength(24, 4) = 1;"
            + "arrive(2, 0, 8) = 25; fragments(25) = 8; fragmentStart(25, 7) = 22; freeRuns() = 0; fragments(1) = 1; fragmentStart(1, 0) = 1")
            .playUnchanged("fragments(0) = BAD_INDEX; fragments(26) = BAD_INDEX; fragments(-1) = BAD_INDEX; fragments(MIN) = BAD_INDEX;"
            + "fragments(MAX) = BAD_INDEX; fragmentStart(24, 5) = BAD_INDEX; fragmentStart(24, -1) = BAD_INDEX;"
            + "fragmentStart(24, MAX) = BAD_INDEX; fragmentStart(24, MIN) = BAD_INDEX; fragmentStart(0, 0) = BAD_INDEX;"
            + "fragmentStart(-1, 0) = BAD_INDEX; fragmentLength(24, 5) = BAD_INDEX; fragmentLength(24, -1) = BAD_INDEX;"
            + "fragmentLength(24, MAX) = BAD_INDEX; fragmentLength(24, MIN) = BAD_INDEX; fragmentLength(0, 0) = BAD_INDEX;"
            + "fragmentLength(26, 0) = BAD_INDEX; fragmentLength(-1, 0) = BAD_INDEX")
            .play("ticks(3) = 13; fragments(24) = BAD_INDEX; fragmentStart(24, 0) = BAD_INDEX; fragmentLength(25, 7) = 1;"
            + "runStart(0) = 0; freeRuns() = 9; runLength(0) = 8; runStart(1) = 9; runStart(8) = 23; runLength(8) = 9");
        Script most = new Script(A, "promise 38, twelve fragments");
        most.play("reset(24, 3) = 64; setAlpha(0, 0, 64) = 8; setAlpha(1, 0, 64) = 8; setAlpha(2, 0, 64) = 8; setBurst(1, 0, 32, 0) = 0");
        for (int i = 0; i < 24; i++) {
            most.play("arrive(" + i % 2 + ", 0, 1) = " + i);
        }
        most.play("flush(1) = 12; arrive(2, 0, 12) = 24; fragments(24) = 12; fragmentStart(24, 0) = 1; fragmentStart(24, 11) = 23;"
            + "fragmentLength(24, 11) = 1; fragmentStart(24, 12) = BAD_INDEX; flush(2) = 1; freeRuns() = 12");
    }

    private static void freeRuns() {
        new Script(A, "promises 41 to 43").play("freeRuns() = 1; runStart(0) = 0; runLength(0) = 64; arrive(0, 0, 4) = 0; arrive(1, 0, 5) = 1;"
            + "arrive(0, 0, 6) = 2; freeRuns() = 1; runStart(0) = 15; runLength(0) = 49; flush(0) = 2; freeRuns() = 2; runStart(0) = 0;"
            + "runLength(0) = 4; runStart(1) = 9; runLength(1) = 55").playUnchanged("runStart(2) = BAD_INDEX; runStart(-1) = BAD_INDEX;"
            + "runStart(MIN) = BAD_INDEX; runStart(MAX) = BAD_INDEX; runLength(2) = BAD_INDEX; runLength(-1) = BAD_INDEX;"
            + "runLength(MIN) = BAD_INDEX; runLength(MAX) = BAD_INDEX").play("flush(1) = 1; freeRuns() = 1; runLength(0) = 64");
        new Script(A, "promises 41 to 43, a full memory").play("reset(16, 1) = 64; setAlpha(0, 0, 64) = 8; arrive(0, 0, 8) = 0;"
            + "arrive(0, 0, 8) = 1; freeRuns() = 0; runStart(0) = BAD_INDEX; runLength(0) = BAD_INDEX");
        new Script(A, "promises 41 to 43, a smaller memory ends at its last cell").play("arrive(0, 0, 12) = 0; reset(16, 1) = 64;"
            + "freeRuns() = 1; runLength(0) = 16; arrive(0, 0, 8) = 0; runStart(0) = 8; runLength(0) = 8");
    }
}
