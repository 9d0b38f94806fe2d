/** The five examples that the document gives under 'Terms'. */
public final class ExamplesTest {
    private static final Answers A = new Answers();

    public static void main(String[] args) {
        fallingThreshold();
        pushingOut();
        headroomAndPauses();
        deficits();
        guaranteedCells();
        A.end("ExamplesTest");
    }

    private static void fallingThreshold() {
        A.about("example 1");
        SharedPacketBuffer x = new SharedPacketBuffer();
        A.due("reset(32, 2)", x.reset(32, 2), 64);
        A.due("setAlpha(0, 0, 4)", x.setAlpha(0, 0, 4), 8);
        A.due("threshold(0, 0)", x.threshold(0, 0), 16);
        A.due("arrive(0, 0, 8)", x.arrive(0, 0, 8), 0);
        A.due("freeShared()", x.freeShared(), 24);
        A.due("threshold(0, 0)", x.threshold(0, 0), 12);
        A.due("arrive(0, 0, 12)", x.arrive(0, 0, 12), -6);
        A.due("lossCause(2)", x.lossCause(2), 3);
        A.due("losses(0, 3)", x.losses(0, 3), 1);
        A.due("largestAdmissible(0, 0)", x.largestAdmissible(0, 0), 4);
        A.due("arrive(0, 3, 1)", x.arrive(0, 3, 1), -1);
        A.due("arrive(0, 2, 13)", x.arrive(0, 2, 13), -2);
    }

    private static void pushingOut() {
        A.about("example 2");
        SharedPacketBuffer x = new SharedPacketBuffer();
        A.due("reset(16, 1)", x.reset(16, 1), 64);
        A.due("setAlpha(0, 2, 64)", x.setAlpha(0, 2, 64), 8);
        A.due("setAlpha(0, 0, 64)", x.setAlpha(0, 0, 64), 8);
        A.due("arrive(0, 2, 6)", x.arrive(0, 2, 6), 0);
        A.due("arrive(0, 2, 6)", x.arrive(0, 2, 6), 1);
        A.due("arrive(0, 2, 4)", x.arrive(0, 2, 4), 2);
        A.due("arrive(0, 0, 5)", x.arrive(0, 0, 5), -6);
        A.due("setPushOut(true)", x.setPushOut(true), 0);
        A.due("stageFor(0, 0, 5)", x.stageFor(0, 0, 5), 4);
        A.due("arrive(0, 0, 5)", x.arrive(0, 0, 5), 3);
        A.due("losses(0, 8)", x.losses(0, 8), 2);
        A.due("queueLength(0, 2)", x.queueLength(0, 2), 1);
        A.due("fragmentStart(3, 0)", x.fragmentStart(3, 0), 6);
        A.due("freeRuns()", x.freeRuns(), 1);
    }

    private static void headroomAndPauses() {
        A.about("example 3");
        SharedPacketBuffer x = new SharedPacketBuffer();
        A.due("setLossless(1, 1, true)", x.setLossless(1, 1, true), 0);
        A.due("setHeadroom(1, 6)", x.setHeadroom(1, 6), 0);
        A.due("setAlpha(1, 1, 0)", x.setAlpha(1, 1, 0), 8);
        A.due("arrive(1, 1, 4)", x.arrive(1, 1, 4), 0);
        A.due("isPaused(1, 1)", x.isPaused(1, 1), 1);
        A.due("headroomCells(1, 1)", x.headroomCells(1, 1), 4);
        A.due("arrive(1, 1, 4)", x.arrive(1, 1, 4), -6);
        A.due("lossCause(1)", x.lossCause(1), 5);
        A.due("setAlpha(1, 1, 8)", x.setAlpha(1, 1, 8), 0);
        A.due("ticks(1)", x.ticks(1), 1);
        A.due("isPaused(1, 1)", x.isPaused(1, 1), 0);
        A.due("pauses(1, 1)", x.pauses(1, 1), 1);
    }

    private static void deficits() {
        A.about("example 4");
        SharedPacketBuffer x = new SharedPacketBuffer();
        A.due("setScheduler(0, true, 5)", x.setScheduler(0, true, 5), 4);
        A.due("setQuantum(0, 0, 2)", x.setQuantum(0, 0, 2), 4);
        A.due("arrive(0, 0, 4)", x.arrive(0, 0, 4), 0);
        A.due("arrive(0, 1, 4)", x.arrive(0, 1, 4), 1);
        A.due("drainTicks(0)", x.drainTicks(0), 2);
        A.due("ticks(1)", x.ticks(1), 1);
        A.due("credit(0)", x.credit(0), 1);
        A.due("deficit(0, 0)", x.deficit(0, 0), 4);
        A.due("queueLength(0, 1)", x.queueLength(0, 1), 0);
        A.due("ticks(1)", x.ticks(1), 1);
        A.due("departed(0)", x.departed(0), 2);
        A.due("drainTicks(0)", x.drainTicks(0), 0);
    }

    private static void guaranteedCells() {
        A.about("example 5");
        SharedPacketBuffer x = new SharedPacketBuffer();
        A.due("grant(0, 10)", x.grant(0, 10), -5);
        A.due("grant(1, 12)", x.grant(1, 12), -5);
        A.due("arrive(0, 1, 9)", x.arrive(0, 1, 9), 0);
        A.due("grant(2, 6)", x.grant(2, 6), 0);
        A.due("guaranteedCells(0, 1)", x.guaranteedCells(0, 1), 0);
        A.due("sharedCells(0, 1)", x.sharedCells(0, 1), 9);
        A.due("grant(1, 32)", x.grant(1, 32), -5);
        A.due("grant(3, 32)", x.grant(3, 32), 1);
        A.due("sharedPool()", x.sharedPool(), 26);
        A.due("withdraw(0)", x.withdraw(0), -5);
        A.due("equilibrium(3, false)", x.equilibrium(3, false), 26);
        A.due("equilibrium(3, true)", x.equilibrium(3, true), 3);
    }
}
