/** Promises 1 to 12: a new object and the calls that configure it. */
public final class ConfigurationTest {
    private static final Answers A = new Answers();

    public static void main(String[] args) {
        newObject();
        reset();
        setReserve();
        setHeadroom();
        setAlpha();
        setBurst();
        setLossless();
        setScheduler();
        setQuantum();
        setPushOut();
        grant();
        withdraw();
        A.end("ConfigurationTest");
    }

    private static final String DEFAULTS = "time() = 0; admitted() = 0; lossCause(0) = NONE; lossCause(3) = NONE;"
        + "setReserve(0, 0) = 0; setHeadroom(0, 0) = 0; grantOf(0) = 0; withdraw(0) = NONE; setAlpha(0, 0, 8) = 8;"
        + "setAlpha(0, 2, 8) = 8; burstTank(0, 0) = 0; setLossless(0, 1, false) = 0; isPaused(0, 1) = 0;"
        + "pauses(0, 1) = 0; setScheduler(0, false, 4) = 4; setQuantum(0, 0, 4) = 4; setQuantum(0, 2, 4) = 4;"
        + "setPushOut(false) = 0; credit(0) = 0; deficit(0, 0) = 0; departed(0) = 0; lostCells(0) = 0;"
        + "losses(0, 2) = 0; losses(0, 3) = 0; losses(0, 5) = 0; losses(0, 8) = 0; losses(0, 9) = 0;"
        + "guaranteedCells(0, 1) = 0; sharedCells(0, 1) = 0; headroomCells(0, 1) = 0; queueLength(0, 1) = 0;";
    /** Strict priority sends both packets of priority 0 first; round robin would not. */
    private static final String STRICT = "arrive(0, 1, 4) = 0; arrive(0, 0, 4) = 1; arrive(0, 0, 4) = 2; ticks(2) = 2;"
        + "queueLength(0, 0) = 0; queueLength(0, 1) = 1; burstTank(0, 0) = 0";

    private static void newObject() {
        new Script(A, "promise 1").play("sharedPool() = 64; freeShared() = 64; freeRuns() = 1; runStart(0) = 0;"
            + "runLength(0) = 64; credit(3) = 0; credit(4) = BAD_INDEX; clearText() = 0; faultPosition() = NONE;"
            + "restore(0) = NONE; restore(1) = NONE; threshold(3, 2) = 64").play(DEFAULTS).play(STRICT)
            .play("reset(16, 1) = 64");
        Script again = new Script(A, "promise 1");
        again.play("reset(64, 4) = 64");
        new Script(A, "promise 1").sameAs(again);
        new Script(A, "promise 1").play("append(97) = 1; append(120) = 2");
        new Script(A, "promise 1, another object's text is its own").play("clearText() = 0");
    }

    private static void reset() {
        String busy = "setReserve(0, 3) = 0; setHeadroom(0, 4) = 0; setAlpha(0, 0, 3) = 8; setAlpha(0, 2, 0) = 8;"
            + "setBurst(0, 0, 9, 8) = 0; setLossless(0, 2, true) = 0; setScheduler(0, true, 7) = 4;"
            + "setQuantum(0, 0, 9) = 4; setQuantum(0, 2, 1) = 4; setPushOut(true) = 0; grant(0, 2) = NONE;"
            + "grant(1, 2) = NONE; arrive(0, 2, 9) = 0; isPaused(0, 2) = 1; arrive(0, 2, 2) = LOST;"
            + "arrive(0, 0, 5) = 1; flush(0) = 2; arrive(0, 0, 12) = 2; arrive(1, 0, 12) = 3; ticks(1) = 0;"
            + "traffic(7, 4, 3) = 1;";
        new Script(A, "promise 2").play(busy).play("reset(20, 2) = 64; sharedPool() = 20; freeShared() = 20;"
            + "runLength(0) = 20; freeRuns() = 1; fragments(2) = BAD_INDEX; credit(2) = BAD_INDEX; grant(0, 1) = NONE;"
            + "grant(1, 1) = NONE; withdraw(0) = 1; withdraw(1) = 1").play(DEFAULTS).play(STRICT);
        new Script(A, "promise 2").play(busy).play("reset(64, 4) = 64").play(STRICT);
        String unevenly = "setLossless(0, 0, true) = 0; setLossless(0, 1, true) = 0; setHeadroom(0, 20) = 0; setAlpha(0, 1, 0) = 8;"
            + "setScheduler(0, true, 1) = 4; arrive(0, 1, 12) = 0; arrive(0, 0, 9) = 1; ticks(1) = 0; headroomCells(0, 1) = 12;"
            + "deficit(0, 1) = 8; deficit(0, 0) = 12; setBurst(0, 1, 9, 8) = 0;";
        new Script(A, "promise 2").play(unevenly).play("reset(64, 4) = 64; deficit(0, 0) = 0; deficit(0, 1) = 0; headroomCells(0, 1) = 0;"
            + "setLossless(0, 0, false) = 0; setLossless(0, 1, false) = 0; ticks(3) = 0; burstTank(0, 1) = 0; isPaused(0, 1) = 0")
            .play("setHeadroom(0, 0) = 0; arrive(0, 1, 3) = 0; packetAt(0, 1, 0) = 0; queueLength(0, 1) = 1; credit(0) = 0");
        Script again = new Script(A, "promise 2");
        again.play("reset(33, 5) = 64");
        new Script(A, "promise 2").play(busy).play("reset(33, 5) = 64").sameAs(again);
        new Script(A, "promise 2, the text and the slots stay").play("arrive(0, 0, 3) = 0; save(1) = 0; reset(16, 1) = 64;"
            + "append(116) = 1; append(49) = 2; reset(128, 6) = 16; faultPosition() = 2; clearText() = 2;"
            + "restore(0) = NONE; sharedPool() = 128; restore(1) = 0; sharedPool() = 64; fragments(0) = 1");
        new Script(A, "promise 2, edges").play("reset(16, 6) = 64; reset(128, 1) = 16; reset(16, 1) = 128; credit(1) = BAD_INDEX");
        new Script(A, "promise 2, errors").play(busy).playUnchanged("reset(15, 4) = BAD_VALUE; reset(129, 4) = BAD_VALUE;"
            + "reset(64, 0) = BAD_VALUE; reset(64, 7) = BAD_VALUE; reset(MIN, 1) = BAD_VALUE; reset(MAX, 1) = BAD_VALUE;"
            + "reset(64, MIN) = BAD_VALUE; reset(64, MAX) = BAD_VALUE; reset(0, 0) = BAD_VALUE");
    }

    private static void setReserve() {
        new Script(A, "promise 3").play("setReserve(3, 64) = 0; sharedPool() = 0; freeGuarantee(3) = 64;"
            + "setReserve(3, 10) = 64; sharedPool() = 54; freeShared() = 54; setReserve(3, 0) = 10; sharedPool() = 64");
        new Script(A, "promise 3, cells become shared, first of priority 2").play("setReserve(1, 12) = 0;"
            + "arrive(1, 0, 4) = 0; arrive(1, 1, 4) = 1; arrive(1, 2, 4) = 2; setReserve(1, 7) = 12;"
            + "guaranteedCells(1, 2) = 0; sharedCells(1, 2) = 4; guaranteedCells(1, 1) = 3; sharedCells(1, 1) = 1;"
            + "guaranteedCells(1, 0) = 4; sharedPool() = 57; freeShared() = 52; freeGuarantee(1) = 0;"
            + "setReserve(1, 1) = 7; guaranteedCells(1, 1) = 0; guaranteedCells(1, 0) = 1; sharedCells(1, 0) = 3;"
            + "setReserve(1, 9) = 1; guaranteedCells(1, 0) = 1; sharedCells(1, 0) = 3; freeGuarantee(1) = 8;"
            + "freeShared() = 44");
        new Script(A, "promise 3, errors").play("reset(20, 2) = 64; setReserve(0, 8) = 0; arrive(1, 0, 4) = 0;"
            + "freeShared() = 8; setReserve(0, 16) = 8; setReserve(0, 8) = 16")
            .playUnchanged("setReserve(0, 17) = NO_ROOM; setReserve(1, 9) = NO_ROOM; setReserve(-1, 1) = BAD_INDEX;"
            + "setReserve(2, 1) = BAD_INDEX; setReserve(0, -1) = BAD_VALUE; setReserve(0, 65) = BAD_VALUE;"
            + "setReserve(2, 65) = BAD_INDEX; setReserve(MIN, MIN) = BAD_INDEX; setReserve(MAX, 0) = BAD_INDEX;"
            + "setReserve(0, MIN) = BAD_VALUE; setReserve(0, MAX) = BAD_VALUE");
        new Script(A, "promise 3, the reserve stays after errors").play("setReserve(0, 60) = 0; setReserve(0, 65) = BAD_VALUE;"
            + "setReserve(1, 5) = NO_ROOM; setReserve(1, 4) = 0; setReserve(0, 60) = 60");
    }

    private static void setHeadroom() {
        new Script(A, "promise 4").play("setHeadroom(0, 64) = 0; sharedPool() = 0; setHeadroom(0, 9) = 64; sharedPool() = 55;"
            + "setHeadroom(0, 0) = 9; freeGuarantee(0) = 0");
        new Script(A, "promise 4, errors").play("reset(20, 2) = 64; setLossless(0, 0, true) = 0; setLossless(0, 2, true) = 0;"
            + "setAlpha(0, 0, 0) = 8; setAlpha(0, 2, 0) = 8; setHeadroom(0, 7) = 0; arrive(0, 0, 3) = 0;"
            + "arrive(0, 2, 2) = 1; arrive(1, 0, 5) = 2; freeShared() = 8")
            .playUnchanged("setHeadroom(0, 4) = IN_USE; setHeadroom(0, 0) = IN_USE; setHeadroom(0, 16) = NO_ROOM;"
            + "setHeadroom(1, 9) = NO_ROOM; setHeadroom(0, -1) = BAD_VALUE; setHeadroom(0, 65) = BAD_VALUE;"
            + "setHeadroom(-1, 0) = BAD_INDEX; setHeadroom(2, 65) = BAD_INDEX; setHeadroom(0, MIN) = BAD_VALUE;"
            + "setHeadroom(MAX, 1) = BAD_INDEX; setHeadroom(0, MAX) = BAD_VALUE")
            .play("setHeadroom(0, 5) = 7; freeShared() = 10; setHeadroom(0, 15) = 5; freeShared() = 0;"
            + "setHeadroom(1, 0) = 0");
    }

    private static void setAlpha() {
        new Script(A, "promise 5").play("setAlpha(3, 2, 64) = 8; setAlpha(3, 2, 0) = 64; threshold(3, 2) = 0;"
            + "threshold(3, 1) = 64; threshold(2, 2) = 64; setAlpha(3, 2, 1) = 0; threshold(3, 2) = 8;"
            + "arrive(3, 2, 8) = 0; arrive(3, 2, 1) = LOST").playUnchanged("setAlpha(4, 0, 1) = BAD_INDEX;"
            + "setAlpha(-1, 0, 1) = BAD_INDEX; setAlpha(0, 3, 1) = BAD_INDEX; setAlpha(0, -1, 65) = BAD_INDEX;"
            + "setAlpha(0, 0, 65) = BAD_VALUE; setAlpha(0, 0, -1) = BAD_VALUE; setAlpha(0, MAX, 0) = BAD_INDEX;"
            + "setAlpha(MIN, 0, 0) = BAD_INDEX; setAlpha(0, 0, MIN) = BAD_VALUE; setAlpha(0, 0, MAX) = BAD_VALUE")
            .play("setAlpha(0, 0, 8) = 8; setAlpha(3, 2, 8) = 1");
    }

    private static void setBurst() {
        new Script(A, "promise 6").play("setBurst(1, 2, 32, 8) = 0; burstTank(1, 2) = 32; setBurst(1, 2, 6, 1) = 32;"
            + "setAlpha(1, 2, 0) = 8; arrive(1, 2, 4) = 0; burstTank(1, 2) = 2; ticks(1) = 1; burstTank(1, 2) = 3;"
            + "setBurst(1, 2, 0, 0) = 3; burstTank(1, 2) = 0; arrive(1, 2, 1) = LOST; setBurst(1, 2, 5, 0) = 0;"
            + "arrive(1, 2, 2) = 1; ticks(2) = 1; burstTank(1, 2) = 3; burstTank(1, 1) = 0")
            .playUnchanged("setBurst(4, 0, 1, 1) = BAD_INDEX; setBurst(-1, 0, 33, 1) = BAD_INDEX; setBurst(0, 3, 1, 9) = BAD_INDEX;"
            + "setBurst(0, -1, 1, 1) = BAD_INDEX; setBurst(1, 2, 33, 0) = BAD_VALUE; setBurst(1, 2, -1, 0) = BAD_VALUE;"
            + "setBurst(1, 2, 1, 9) = BAD_VALUE; setBurst(1, 2, 1, -1) = BAD_VALUE; setBurst(1, 2, MIN, 0) = BAD_VALUE;"
            + "setBurst(1, 2, 0, MAX) = BAD_VALUE").play("setBurst(1, 2, 0, 0) = 3");
    }

    private static void setLossless() {
        String paused = "reset(16, 1) = 64; setHeadroom(0, 8) = 0; setAlpha(0, 1, 0) = 8; setLossless(0, 1, true) = 0;"
            + "setLossless(0, 1, true) = 1; arrive(0, 1, 4) = 0; isPaused(0, 1) = 1;";
        new Script(A, "promise 7").play(paused).playUnchanged("setLossless(0, 1, false) = IN_USE; setLossless(0, 1, true) = 1;"
            + "setLossless(1, 0, true) = BAD_INDEX; setLossless(-1, 0, false) = BAD_INDEX; setLossless(0, 3, true) = BAD_INDEX;"
            + "setLossless(0, -1, true) = BAD_INDEX; setLossless(MAX, MIN, true) = BAD_INDEX")
            .play("ticks(1) = 1; isPaused(0, 1) = 1; setLossless(0, 1, true) = 1; isPaused(0, 1) = 1;"
            + "setLossless(0, 1, false) = 1; isPaused(0, 1) = 0; pauses(0, 1) = 1; setLossless(0, 1, false) = 0;"
            + "arrive(0, 1, 4) = LOST; lossCause(1) = NOT_LOSSLESS; setLossless(0, 1, true) = 0; arrive(0, 1, 4) = 1;"
            + "pauses(0, 1) = 2; headroomCells(0, 1) = 4");
        new Script(A, "promise 7, one headroom cell").play("setHeadroom(2, 1) = 0; setAlpha(2, 0, 0) = 8; setLossless(2, 0, true) = 0;"
            + "arrive(2, 0, 1) = 0; headroomCells(2, 0) = 1").playUnchanged("setLossless(2, 0, false) = IN_USE; setHeadroom(2, 0) = IN_USE")
            .play("flush(2) = 1; setLossless(2, 0, false) = 1; setHeadroom(2, 0) = 1");
    }

    private static void setScheduler() {
        new Script(A, "promise 8").play("setScheduler(2, false, 16) = 4; setScheduler(2, true, 0) = 16;"
            + "setScheduler(2, false, 3) = 0").playUnchanged("setScheduler(4, true, 1) = BAD_INDEX;"
            + "setScheduler(-1, true, 17) = BAD_INDEX; setScheduler(2, true, 17) = BAD_VALUE; setScheduler(2, true, -1) = BAD_VALUE;"
            + "setScheduler(MIN, true, 1) = BAD_INDEX; setScheduler(2, true, MIN) = BAD_VALUE; setScheduler(2, true, MAX) = BAD_VALUE")
            .play("setScheduler(2, false, 4) = 3");
        new Script(A, "promise 8, strict priority and then turns").play("arrive(0, 0, 4) = 0; arrive(0, 0, 4) = 1;"
            + "arrive(0, 1, 4) = 2; ticks(1) = 1; queueLength(0, 0) = 1; setScheduler(0, true, 4) = 4; setQuantum(0, 0, 3) = 4;"
            + "ticks(1) = 1; queueLength(0, 0) = 1; queueLength(0, 1) = 0; deficit(0, 0) = 6");
        new Script(A, "promise 8, credit, turn, flag and deficits stay").play("setScheduler(0, true, 3) = 4; setQuantum(0, 0, 2) = 4;"
            + "setQuantum(0, 1, 7) = 4; arrive(0, 0, 5) = 0; arrive(0, 1, 6) = 1; arrive(0, 1, 1) = 2; ticks(1) = 0; credit(0) = 3;"
            + "deficit(0, 0) = 2; deficit(0, 1) = 7; setScheduler(0, false, 1) = 3; credit(0) = 3; deficit(0, 0) = 2;"
            + "deficit(0, 1) = 7; ticks(1) = 0; credit(0) = 4; deficit(0, 0) = 2; deficit(0, 1) = 7; setScheduler(0, true, 2) = 1;"
            + "ticks(1) = 1; deficit(0, 1) = 1; queueLength(0, 1) = 1; credit(0) = 0; ticks(1) = 1; deficit(0, 0) = 6;"
            + "credit(0) = 1; queueLength(0, 1) = 0");
    }

    private static void setQuantum() {
        new Script(A, "promise 9").play("setQuantum(1, 2, 16) = 4; setQuantum(1, 2, 1) = 16; setScheduler(1, true, 1) = 4;"
            + "arrive(1, 2, 5) = 0; ticks(1) = 0; deficit(1, 2) = 5; setQuantum(1, 2, 3) = 1; ticks(3) = 0; deficit(1, 2) = 5;"
            + "setQuantum(1, 0, 16) = 4; arrive(1, 0, 12) = 1; flush(1) = 2; arrive(1, 2, 5) = 2; ticks(1) = 0; deficit(1, 2) = 6")
            .playUnchanged("setQuantum(4, 0, 1) = BAD_INDEX; setQuantum(-1, 0, 0) = BAD_INDEX; setQuantum(0, 3, 1) = BAD_INDEX;"
            + "setQuantum(0, -1, 17) = BAD_INDEX; setQuantum(1, 2, 0) = BAD_VALUE; setQuantum(1, 2, 17) = BAD_VALUE;"
            + "setQuantum(1, 2, MIN) = BAD_VALUE; setQuantum(1, 2, MAX) = BAD_VALUE; setQuantum(1, MAX, 1) = BAD_INDEX")
            .play("setQuantum(1, 2, 4) = 3");
    }

    private static void setPushOut() {
        new Script(A, "promise 10").play("reset(16, 1) = 64; setPushOut(false) = 0; setPushOut(true) = 0; setPushOut(true) = 1;"
            + "setAlpha(0, 2, 64) = 8; arrive(0, 2, 12) = 0; stageFor(0, 0, 6) = 4; setPushOut(false) = 1; setPushOut(false) = 0;"
            + "stageFor(0, 0, 6) = LOST; arrive(0, 0, 6) = LOST; lossCause(0) = PUSH_OUT_OFF; setPushOut(true) = 0;"
            + "arrive(0, 0, 6) = 1");
    }

    private static void grant() {
        new Script(A, "promise 11").play("grant(0, 32) = NONE; grantOf(0) = 32; sharedPool() = 32; grant(1, 32) = NONE;"
            + "sharedPool() = 0; grant(2, 32) = 0; grantOf(0) = 0; grantOf(2) = 32; grant(0, 1) = 1; grantOf(1) = 0;"
            + "sharedPool() = 31; grant(3, 1) = 2; grant(1, 4) = 0; grant(2, 5) = 3; freeGuarantee(2) = 5");
        new Script(A, "promise 11, a changed grant keeps its age").play("grant(0, 5) = NONE; grant(1, 5) = NONE; grant(0, 7) = NONE;"
            + "sharedPool() = 52; grant(2, 1) = 0; grant(2, 3) = NONE; grant(1, 6) = NONE; sharedPool() = 55; grant(3, 1) = 1");
        new Script(A, "promise 11, a withdrawn grant loses its age").play("grant(0, 5) = NONE; grant(1, 5) = NONE; withdraw(0) = 5;"
            + "grant(0, 5) = NONE; grant(2, 5) = 1; withdraw(2) = 5; grant(3, 1) = NONE; grant(2, 1) = 0");
        new Script(A, "promise 11, a smaller grant").play("grant(0, 10) = NONE; arrive(0, 2, 3) = 0; arrive(0, 1, 4) = 1;"
            + "arrive(0, 0, 3) = 2; grant(0, 5) = NONE; guaranteedCells(0, 2) = 0; sharedCells(0, 2) = 3; guaranteedCells(0, 1) = 2;"
            + "sharedCells(0, 1) = 2; guaranteedCells(0, 0) = 3; freeShared() = 54; freeGuarantee(0) = 0");
        new Script(A, "promise 11, the reserve counts too").play("setReserve(0, 4) = 0; grant(0, 10) = NONE; freeGuarantee(0) = 14;"
            + "arrive(0, 1, 9) = 0; grant(1, 1) = NONE; grant(2, 1) = 0; guaranteedCells(0, 1) = 4; sharedCells(0, 1) = 5;"
            + "freeShared() = 53");
        new Script(A, "promise 11, no room").play("reset(32, 4) = 64; grant(0, 10) = NONE; grant(1, 2) = NONE; arrive(0, 0, 8) = 0;"
            + "setReserve(3, 15) = 0; freeShared() = 5").playUnchanged("grant(2, 8) = NO_ROOM; grant(2, 32) = NO_ROOM; grant(1, 8) = NO_ROOM;"
            + "grant(0, 16) = NO_ROOM").play("grant(1, 7) = NONE; grant(1, 2) = NONE; grant(2, 7) = 0; freeShared() = 0;"
            + "sharedCells(0, 0) = 8; grant(0, 3) = NO_ROOM; grantOf(1) = 2; setReserve(3, 14) = 15; grant(0, 3) = 1;"
            + "freeShared() = 0");
        new Script(A, "promise 11, room behind a withdrawal").play("reset(32, 4) = 64; setReserve(0, 4) = 0; grant(0, 10) = NONE;"
            + "grant(1, 1) = NONE; arrive(0, 0, 6) = 0; setReserve(3, 16) = 0; freeShared() = 1; grant(2, 10) = NO_ROOM; grant(2, 9) = 0;"
            + "freeShared() = 0; guaranteedCells(0, 0) = 4; sharedCells(0, 0) = 2; grantOf(0) = 0");
        new Script(A, "promise 11, the reserve alone covers the cells").play("reset(32, 4) = 64; setReserve(0, 4) = 0; grant(0, 10) = NONE;"
            + "grant(1, 1) = NONE; arrive(0, 0, 3) = 0; setReserve(3, 17) = 0; freeShared() = 0; grant(2, 11) = NO_ROOM; grant(2, 10) = 0;"
            + "freeShared() = 0; guaranteedCells(0, 0) = 3");
        new Script(A, "promise 11, errors").play("grant(1, 3) = NONE").playUnchanged("grant(-1, 1) = BAD_INDEX; grant(4, 0) = BAD_INDEX;"
            + "grant(0, 0) = BAD_VALUE; grant(0, 33) = BAD_VALUE; grant(MAX, 1) = BAD_INDEX; grant(MIN, 33) = BAD_INDEX;"
            + "grant(1, MIN) = BAD_VALUE; grant(1, MAX) = BAD_VALUE");
    }

    private static void withdraw() {
        new Script(A, "promise 12").play("grant(3, 9) = NONE; arrive(3, 1, 4) = 0; arrive(3, 0, 2) = 1; setReserve(3, 1) = 0;"
            + "withdraw(3) = 9; guaranteedCells(3, 1) = 0; guaranteedCells(3, 0) = 1; sharedCells(3, 1) = 4; sharedCells(3, 0) = 1;"
            + "grantOf(3) = 0; sharedPool() = 63; freeShared() = 58").playUnchanged("withdraw(3) = NONE; withdraw(0) = NONE;"
            + "withdraw(-1) = BAD_INDEX; withdraw(4) = BAD_INDEX; withdraw(MIN) = BAD_INDEX; withdraw(MAX) = BAD_INDEX");
        new Script(A, "promise 12, the newer of two").play("grant(0, 1) = NONE; grant(1, 2) = NONE; withdraw(1) = 2; grant(2, 3) = NONE;"
            + "grant(3, 4) = 0; withdraw(0) = NONE; withdraw(2) = 3; withdraw(3) = 4; sharedPool() = 64");
    }
}
