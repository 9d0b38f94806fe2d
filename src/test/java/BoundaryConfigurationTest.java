/** The boundary cases of promises 1 to 12 and of 'Grants', sentence by sentence. */
public final class BoundaryConfigurationTest {
    private static final Answers A = new Answers();

    public static void main(String[] args) {
        newObject();
        resetRanges();
        resetFromFull();
        setReserve();
        setReserveRoom();
        setHeadroom();
        setHeadroomErrors();
        setAlpha();
        setBurst();
        setLossless();
        setScheduler();
        setQuantum();
        setPushOut();
        grantRange();
        grantAges();
        grantRoom();
        grantCells();
        withdraw();
        A.end("BoundaryConfigurationTest");
    }

    private static Script at(int promise, String sentence) {
        return new Script(A, "promise " + promise + ", '" + sentence + "'");
    }

    private static void newObject() {
        Script again = at(1, "as after reset(64, 4)").play("reset(64, 4) = 64");
        at(1, "as after reset(64, 4)").sameAs(again);
        at(1, "Creates a switch with 64 cells and 4 ports").play("""
            sharedPool() = 64
            runLength(0) = 64
            credit(3) = 0
            credit(4) = BAD_INDEX
            reset(16, 1) = 64
            """);
        at(1, "with an empty text").playUnchanged("faultPosition() = NONE; run() = 0; clearText() = 0");
        at(1, "and empty slots").refused("NONE", "restore(0)", "restore(1)");
    }

    private static void resetRanges() {
        at(2, "the number of cells, 16 to 128").play("""
            reset(16, 4) = 64
            sharedPool() = 16
            runLength(0) = 16
            reset(17, 4) = 16
            reset(127, 4) = 17
            runLength(0) = 127
            reset(128, 4) = 127
            sharedPool() = 128
            runLength(0) = 128
            """);
        at(2, "the number of cells, 16 to 128").busy()
            .refused("BAD_VALUE", "reset(15, 3)", "reset(129, 3)", "reset(0, 3)", "reset(-16, 3)", "reset(MIN, 3)", "reset(MAX, 3)");
        at(2, "the number of ports, 1 to 6").play("""
            reset(64, 1) = 64
            credit(0) = 0
            credit(1) = BAD_INDEX
            reset(64, 6) = 64
            credit(5) = 0
            credit(6) = BAD_INDEX
            """);
        at(2, "the number of ports, 1 to 6").busy()
            .refused("BAD_VALUE", "reset(48, 0)", "reset(48, 7)", "reset(48, -1)", "reset(48, MIN)", "reset(48, MAX)", "reset(15, 7)",
                "reset(129, 0)");
        at(2, "Returns the previous number of cells").play("reset(16, 6) = 64; reset(128, 1) = 16; reset(16, 1) = 128; reset(128, 6) = 16");
    }

    private static void resetFromFull() {
        Script fresh = at(2, "Starts anew with an empty memory").play("reset(48, 3) = 64; save(1) = 0");
        at(2, "Starts anew with an empty memory").busy().play("reset(48, 3) = 48; clearText() = 18; save(1) = 0").sameAs(fresh);
        at(2, "Starts anew with an empty memory").play("""
            reset(16, 1) = 64
            setReserve(0, 16) = 0
            arrive(0, 0, 12) = 0
            arrive(0, 2, 4) = 1
            freeRuns() = 0
            reset(16, 1) = 16
            freeRuns() = 1
            runStart(0) = 0
            runLength(0) = 16
            fragments(0) = BAD_INDEX
            packetAt(0, 0, 0) = BAD_INDEX
            freeShared() = 16
            """);
        at(2, "the next packet gets the number 0").busy().play("reset(16, 1) = 48; admitted() = 0; arrive(0, 0, 1) = 0");
        Script text = at(2, "The text and the slots stay").write("t1;".repeat(40)).play("save(0) = 0; ticks(2) = 0; save(1) = 2;"
            + "reset(128, 6) = 64");
        text.refused("NO_ROOM", "append(59)").play("run() = 0; time() = 40; clearText() = 120; restore(0) = 0; restore(1) = 2;"
            + "reset(16, 1) = 64");
        at(2, "The text and the slots stay").play("reset(16, 1) = 64; clearText() = 0").refused("NONE", "restore(0)", "restore(1)");
    }

    private static void setReserve() {
        at(3, "the new reserve, 0 to 64").play("""
            setReserve(0, 0) = 0
            setReserve(0, 64) = 0
            freeGuarantee(0) = 64
            setReserve(0, 0) = 64
            freeGuarantee(0) = 0
            reset(128, 6) = 64
            setReserve(5, 64) = 0
            setReserve(5, 63) = 64
            setReserve(5, 1) = 63
            setReserve(5, 0) = 1
            """);
        at(3, "the new reserve, 0 to 64").busy()
            .refused("BAD_VALUE", "setReserve(0, -1)", "setReserve(0, 65)", "setReserve(2, MIN)", "setReserve(2, MAX)");
        at(3, "a port").busy().noSuchPort(3, "setReserve(#, 4)");
        at(3, "BAD_INDEX; BAD_VALUE; NO_ROOM").busy().refused("BAD_INDEX", "setReserve(3, 65)", "setReserve(-1, -1)", "setReserve(3, 64)")
            .refused("BAD_VALUE", "setReserve(0, 65)").refused("NO_ROOM", "setReserve(0, 64)");
    }

    private static void setReserveRoom() {
        // 20 cells, of which 5 are shared ones in use and 6 are reserved: 9 are free.
        String nine = "reset(20, 2) = 64; setReserve(0, 6) = 0; arrive(1, 0, 5) = 0; freeShared() = 9";
        at(3, "NO_ROOM if the increase is greater than the free shared cells").play(nine)
            .refused("NO_ROOM", "setReserve(0, 16)", "setReserve(0, 64)", "setReserve(1, 10)", "setReserve(1, 64)")
            .play("setReserve(0, 15) = 6; freeShared() = 0").refused("NO_ROOM", "setReserve(0, 16)", "setReserve(1, 1)")
            .play("setReserve(0, 15) = 15; setReserve(1, 0) = 0; setReserve(0, 14) = 15; setReserve(1, 1) = 0; freeShared() = 0");
        at(3, "NO_ROOM if the increase is greater than the free shared cells").play(nine).play("setReserve(1, 9) = 0; freeShared() = 0");
        at(3, "NO_ROOM if the increase is greater than the free shared cells: none at all is free").play("""
            reset(16, 1) = 64
            setAlpha(0, 0, 64) = 8
            arrive(0, 0, 12) = 0
            arrive(0, 0, 4) = 1
            setReserve(0, 0) = 0
            """).refused("NO_ROOM", "setReserve(0, 1)");
        at(3, "When the guarantee of a port becomes less than the guaranteed cells of its queues").play("""
            setReserve(1, 9) = 0
            arrive(1, 0, 2) = 0
            arrive(1, 1, 2) = 1
            arrive(1, 2, 2) = 2
            setReserve(1, 6) = 9
            guaranteedCells(1, 2) = 2
            sharedCells(1, 2) = 0
            freeGuarantee(1) = 0
            setReserve(1, 5) = 6
            guaranteedCells(1, 2) = 1
            sharedCells(1, 2) = 1
            freeGuarantee(1) = 0
            setReserve(1, 4) = 5
            guaranteedCells(1, 2) = 0
            guaranteedCells(1, 1) = 2
            setReserve(1, 3) = 4
            guaranteedCells(1, 1) = 1
            sharedCells(1, 1) = 1
            setReserve(1, 1) = 3
            guaranteedCells(1, 1) = 0
            guaranteedCells(1, 0) = 1
            sharedCells(1, 0) = 1
            setReserve(1, 0) = 1
            guaranteedCells(1, 0) = 0
            sharedCells(1, 0) = 2
            freeShared() = 58
            """);
    }

    private static void setHeadroom() {
        at(4, "the new headroom, 0 to 64").play("""
            setHeadroom(0, 0) = 0
            setHeadroom(0, 64) = 0
            sharedPool() = 0
            setHeadroom(0, 0) = 64
            reset(128, 6) = 64
            setHeadroom(5, 64) = 0
            setHeadroom(5, 63) = 64
            setHeadroom(5, 1) = 63
            setHeadroom(5, 0) = 1
            """);
        at(4, "the new headroom, 0 to 64").busy()
            .refused("BAD_VALUE", "setHeadroom(1, -1)", "setHeadroom(1, 65)", "setHeadroom(0, MIN)", "setHeadroom(0, MAX)");
        at(4, "a port").busy().noSuchPort(3, "setHeadroom(#, 6)");
        at(4, "IN_USE if the headroom cells of its queues are more than cells").play("""
            setHeadroom(2, 9) = 0
            setLossless(2, 0, true) = 0
            setLossless(2, 2, true) = 0
            setAlpha(2, 0, 0) = 8
            setAlpha(2, 2, 0) = 8
            arrive(2, 0, 3) = 0
            arrive(2, 2, 2) = 1
            """).refused("IN_USE", "setHeadroom(2, 4)", "setHeadroom(2, 3)", "setHeadroom(2, 0)")
            .play("setHeadroom(2, 6) = 9; setHeadroom(2, 5) = 6").refused("IN_USE", "setHeadroom(2, 4)")
            .play("setHeadroom(2, 5) = 5; flush(2) = 2; setHeadroom(2, 0) = 5");
    }

    private static void setHeadroomErrors() {
        // 20 cells: 4 of headroom, of which 3 are in use, 6 shared ones in use, and so 10 free ones.
        String ten = """
            reset(20, 2) = 64
            setHeadroom(0, 4) = 0
            setLossless(0, 1, true) = 0
            setAlpha(0, 1, 0) = 8
            arrive(0, 1, 3) = 0
            arrive(1, 0, 6) = 1
            freeShared() = 10
            """;
        at(4, "NO_ROOM if the increase is greater than the free shared cells").play(ten)
            .refused("NO_ROOM", "setHeadroom(0, 15)", "setHeadroom(0, 64)", "setHeadroom(1, 11)")
            .play("setHeadroom(0, 14) = 4; freeShared() = 0").refused("NO_ROOM", "setHeadroom(0, 15)", "setHeadroom(1, 1)")
            .play("setHeadroom(0, 14) = 14; setHeadroom(0, 13) = 14; setHeadroom(1, 1) = 0; freeShared() = 0");
        at(4, "NO_ROOM if the increase is greater than the free shared cells").play(ten).play("setHeadroom(1, 10) = 0; freeShared() = 0");
        at(4, "BAD_INDEX; BAD_VALUE; IN_USE; NO_ROOM").play(ten).refused("BAD_INDEX", "setHeadroom(2, -1)", "setHeadroom(2, 65)",
            "setHeadroom(-1, 2)")
            .refused("BAD_VALUE", "setHeadroom(0, -1)", "setHeadroom(0, 65)").refused("IN_USE", "setHeadroom(0, 2)", "setHeadroom(0, 0)");
    }

    private static void setAlpha() {
        at(5, "the new alpha, 0 to 64").play("""
            setAlpha(0, 0, 0) = 8
            threshold(0, 0) = 0
            setAlpha(0, 0, 1) = 0
            threshold(0, 0) = 8
            setAlpha(0, 0, 63) = 1
            threshold(0, 0) = 504
            setAlpha(0, 0, 64) = 63
            threshold(0, 0) = 512
            setAlpha(3, 2, 64) = 8
            setAlpha(3, 2, 0) = 64
            """);
        at(5, "the new alpha, 0 to 64").busy()
            .refused("BAD_VALUE", "setAlpha(0, 0, -1)", "setAlpha(0, 0, 65)", "setAlpha(2, 2, MIN)", "setAlpha(2, 2, MAX)");
        at(5, "a port; 0 to 2").busy().noSuchQueue(3, "setAlpha(#, 5)");
        at(5, "BAD_INDEX; BAD_VALUE").busy().refused("BAD_INDEX", "setAlpha(3, 0, 65)", "setAlpha(0, 3, 65)", "setAlpha(-1, -1, -1)");
    }

    private static void setBurst() {
        at(6, "the new capacity, 0 to 32").play("""
            setBurst(0, 0, 32, 0) = 0
            burstTank(0, 0) = 32
            setBurst(0, 0, 31, 0) = 32
            setBurst(0, 0, 1, 0) = 31
            setBurst(0, 0, 0, 0) = 1
            burstTank(0, 0) = 0
            """);
        at(6, "the new capacity, 0 to 32").busy().refused("BAD_VALUE", "setBurst(0, 0, -1, 0)", "setBurst(0, 0, 33, 0)",
            "setBurst(0, 0, MIN, 0)",
            "setBurst(0, 0, MAX, 0)");
        at(6, "the new refill, 0 to 8").play("""
            setAlpha(3, 2, 0) = 8
            setBurst(3, 2, 12, 8) = 0
            arrive(3, 2, 12) = 0
            burstTank(3, 2) = 0
            ticks(1) = 0
            burstTank(3, 2) = 8
            setBurst(3, 2, 12, 0) = 8
            arrive(3, 2, 12) = LOST
            flush(3) = 1
            arrive(3, 2, 12) = 1
            ticks(2) = 0
            burstTank(3, 2) = 0
            """);
        at(6, "the new refill, 0 to 8").busy().refused("BAD_VALUE", "setBurst(0, 0, 5, -1)", "setBurst(0, 0, 5, 9)",
            "setBurst(0, 0, 5, MIN)",
            "setBurst(0, 0, 5, MAX)", "setBurst(0, 0, 33, 9)", "setBurst(0, 0, -1, -1)");
        at(6, "the tank is full then (its content is the capacity)").play("""
            setAlpha(1, 1, 0) = 8
            setBurst(1, 1, 7, 1) = 0
            arrive(1, 1, 7) = 0
            burstTank(1, 1) = 0
            setBurst(1, 1, 7, 1) = 0
            burstTank(1, 1) = 7
            setBurst(1, 1, 3, 1) = 7
            burstTank(1, 1) = 3
            """);
        at(6, "a port; 0 to 2").busy().noSuchQueue(3, "setBurst(#, 5, 5)");
        at(6, "BAD_INDEX; BAD_VALUE").busy().refused("BAD_INDEX", "setBurst(3, 0, 33, 0)", "setBurst(0, 3, 0, 9)",
            "setBurst(-1, -1, -1, -1)");
    }

    private static void setLossless() {
        String oneCell = """
            setHeadroom(0, 4) = 0
            setAlpha(0, 2, 0) = 8
            setLossless(0, 2, true) = 0
            arrive(0, 2, 1) = 0
            headroomCells(0, 2) = 1
            """;
        at(7, "IN_USE if lossless is false and the queue has headroom cells").play(oneCell).refused("IN_USE", "setLossless(0, 2, false)")
            .playUnchanged("setLossless(0, 2, true) = 1; setLossless(0, 1, false) = 0").play("ticks(1) = 1; headroomCells(0, 2) = 0;"
            + "setLossless(0, 2, false) = 1");
        at(7, "A queue that is not lossless any more is not paused any more, either").play(oneCell).play("""
            flush(0) = 1
            isPaused(0, 2) = 1
            setLossless(0, 2, true) = 1
            isPaused(0, 2) = 1
            setLossless(0, 2, false) = 1
            isPaused(0, 2) = 0
            pauses(0, 2) = 1
            setLossless(0, 2, true) = 0
            isPaused(0, 2) = 0
            """);
        at(7, "Returns 1 if it was lossless, 0 if not").play("setLossless(3, 0, false) = 0; setLossless(3, 0, true) = 0;"
            + "setLossless(3, 0, true) = 1; setLossless(3, 1, true) = 0; setLossless(3, 0, false) = 1; setLossless(3, 0, false) = 0");
        at(7, "a port; 0 to 2").busy().noSuchQueue(3, "setLossless(#, true)").noSuchQueue(3, "setLossless(#, false)");
    }

    private static void setScheduler() {
        at(8, "the new rate, 0 to 16").play("""
            setScheduler(3, false, 0) = 4
            arrive(3, 0, 12) = 0
            arrive(3, 0, 12) = 1
            ticks(20) = 0
            credit(3) = 0
            setScheduler(3, false, 1) = 0
            ticks(1) = 0
            credit(3) = 1
            setScheduler(3, false, 15) = 1
            setScheduler(3, true, 16) = 15
            setScheduler(3, false, 16) = 16
            ticks(1) = 1
            credit(3) = 5
            """);
        at(8, "the new rate, 0 to 16").busy().refused("BAD_VALUE", "setScheduler(0, true, -1)", "setScheduler(0, true, 17)",
            "setScheduler(0, false, MIN)",
            "setScheduler(0, false, MAX)", "setScheduler(1, true, 17)");
        at(8, "a port").busy().noSuchPort(3, "setScheduler(#, false, 5)");
        at(8, "BAD_INDEX; BAD_VALUE").busy().refused("BAD_INDEX", "setScheduler(3, false, 17)", "setScheduler(-1, true, -1)");
        at(8, "Credit, turn, flag and deficits stay as they are").busy()
            .playUnchanged("setScheduler(0, true, 3) = 3; setScheduler(1, false, 4) = 4; setScheduler(2, false, 4) = 4")
            .play("setScheduler(0, false, 0) = 3; credit(0) = 3; deficit(0, 0) = 4; deficit(0, 1) = 6; setScheduler(0, true, 3) = 0;"
            + "ticks(1) = 3; credit(0) = 1; deficit(0, 0) = 4; deficit(0, 1) = 0; deficit(0, 2) = 4");
    }

    private static void setQuantum() {
        at(9, "the new quantum, 1 to 16").play("""
            setScheduler(2, true, 1) = 4
            setQuantum(2, 1, 1) = 4
            arrive(2, 1, 12) = 0
            ticks(1) = 0
            deficit(2, 1) = 12
            flush(2) = 1
            setQuantum(2, 1, 16) = 1
            arrive(2, 1, 12) = 1
            ticks(1) = 0
            deficit(2, 1) = 16
            setQuantum(2, 1, 15) = 16
            setQuantum(2, 1, 2) = 15
            setQuantum(2, 1, 1) = 2
            """);
        at(9, "the new quantum, 1 to 16").busy().refused("BAD_VALUE", "setQuantum(0, 1, 0)", "setQuantum(0, 1, 17)", "setQuantum(0, 1, -1)",
            "setQuantum(2, 2, MIN)", "setQuantum(2, 2, MAX)");
        at(9, "a port; 0 to 2").busy().noSuchQueue(3, "setQuantum(#, 5)");
        at(9, "BAD_INDEX; BAD_VALUE").busy().refused("BAD_INDEX", "setQuantum(3, 0, 0)", "setQuantum(0, 3, 17)", "setQuantum(-1, -1, -1)");
    }

    private static void setPushOut() {
        at(10, "Returns 1 if it was on, 0 if not").play("setPushOut(false) = 0; setPushOut(true) = 0; setPushOut(true) = 1;"
            + "setPushOut(false) = 1; setPushOut(false) = 0");
    }

    private static void grantRange() {
        at(11, "the cells of the grant, 1 to 32").play("""
            grant(0, 1) = NONE
            grantOf(0) = 1
            freeGuarantee(0) = 1
            grant(0, 32) = NONE
            grantOf(0) = 32
            grant(0, 31) = NONE
            grant(3, 32) = NONE
            grant(3, 1) = NONE
            sharedPool() = 32
            """);
        at(11, "the cells of the grant, 1 to 32").busy()
            .refused("BAD_VALUE", "grant(0, 0)", "grant(0, 33)", "grant(1, 0)", "grant(1, 33)", "grant(2, -1)", "grant(2, MIN)",
            "grant(2, MAX)");
        at(11, "a port").busy().noSuchPort(3, "grant(#, 1)");
        at(11, "BAD_INDEX; BAD_VALUE; NO_ROOM").busy().refused("BAD_INDEX", "grant(3, 0)", "grant(3, 33)", "grant(-1, 0)", "grant(3, 32)")
            .refused("BAD_VALUE", "grant(1, 33)").refused("NO_ROOM", "grant(1, 32)");
    }

    private static void grantAges() {
        at(11, "At most two ports have a grant").play("""
            grant(3, 4) = NONE
            grant(1, 5) = NONE
            grant(2, 6) = 3
            grantOf(3) = 0
            grantOf(1) = 5
            grantOf(2) = 6
            grant(3, 7) = 1
            grantOf(1) = 0
            grant(0, 8) = 2
            grant(1, 9) = 3
            grantOf(0) = 8
            grantOf(1) = 9
            grantOf(2) = 0
            grantOf(3) = 0
            sharedPool() = 47
            """);
        at(11, "A grant that is changed keeps its age").play("""
            grant(0, 4) = NONE
            grant(1, 4) = NONE
            grant(0, 5) = NONE
            grant(0, 3) = NONE
            grant(0, 3) = NONE
            grant(2, 1) = 0
            grant(1, 2) = NONE
            grant(0, 1) = 1
            """);
        at(11, "the port that has had its grant for the longest time loses it first: a grant that is given anew is new").play("""
            grant(0, 4) = NONE
            grant(1, 4) = NONE
            withdraw(0) = 4
            grant(0, 4) = NONE
            grant(2, 4) = 1
            grant(1, 4) = 0
            """);
        at(11, "If a third port would have a grant: not with two ports").play("reset(16, 2) = 64; grant(0, 1) = NONE; grant(1, 1) = NONE;"
            + "grant(0, 2) = NONE; grant(1, 2) = NONE; grant(0, 1) = NONE; sharedPool() = 13");
        at(11, "If a third port would have a grant: not after a withdrawal").play("grant(0, 1) = NONE; grant(1, 1) = NONE; withdraw(1) = 1;"
            + "grant(2, 1) = NONE; grant(3, 1) = 0");
    }

    private static void grantRoom() {
        // 32 cells: a grant of 10, of which 8 are in use, one of 2, 15 in reserve, and so 5 free ones.
        String five = """
            reset(32, 4) = 64
            grant(0, 10) = NONE
            grant(1, 2) = NONE
            arrive(0, 0, 8) = 0
            setReserve(3, 15) = 0
            freeShared() = 5
            """;
        at(11, "NO_ROOM if, after a withdrawal that is necessary, the increase of the guarantee is greater than the free shared cells")
            .play(five).refused("NO_ROOM", "grant(2, 8)", "grant(2, 32)", "grant(3, 8)").play("grant(2, 7) = 0; freeShared() = 0;"
            + "sharedCells(0, 0) = 8");
        at(11, "the increase of the guarantee").play(five).refused("NO_ROOM", "grant(0, 16)", "grant(1, 8)")
            .play("grant(1, 7) = NONE; freeShared() = 0")
            .refused("NO_ROOM", "grant(1, 8)", "grant(0, 11)").play("grant(0, 10) = NONE; grant(0, 9) = NONE; grant(1, 8) = NONE;"
            + "freeShared() = 0");
        at(11, "the increase of the guarantee").play(five).play("grant(0, 15) = NONE; freeShared() = 0").refused("NO_ROOM", "grant(0, 16)");
        at(11, "(the withdrawal does not take place then)").play(five).refused("NO_ROOM", "grant(2, 8)")
            .play("grantOf(0) = 10; guaranteedCells(0, 0) = 8; grantOf(2) = 0; grant(2, 1) = 0");
        // A reserve of 4 and a grant of 10: what the withdrawal frees depends on the cells in use.
        String ten = "reset(32, 4) = 64; setReserve(0, 4) = 0; grant(0, 10) = NONE; grant(1, 1) = NONE; setReserve(3, 17) = 0;"
            + "freeShared() = 0;";
        at(11, "after a withdrawal that is necessary: the reserve is more than the cells in use").play(ten).play("arrive(0, 0, 3) = 0")
            .refused("NO_ROOM", "grant(2, 11)").play("grant(2, 10) = 0; freeShared() = 0");
        at(11, "after a withdrawal that is necessary: the reserve is as much as the cells in use").play(ten).play("arrive(0, 0, 4) = 0")
            .refused("NO_ROOM", "grant(2, 11)").play("grant(2, 10) = 0; sharedCells(0, 0) = 0");
        at(11, "after a withdrawal that is necessary: the reserve is one less than the cells in use").play(ten).play("arrive(0, 0, 5) = 0")
            .refused("NO_ROOM", "grant(2, 10)").play("grant(2, 9) = 0; sharedCells(0, 0) = 1; freeShared() = 0");
        at(11, "after a withdrawal that is necessary: all cells of the grant are in use").play(ten)
            .play("arrive(0, 0, 12) = 0; arrive(0, 0, 2) = 1").refused("NO_ROOM", "grant(2, 1)").play("grantOf(0) = 10");
        at(11, "the increase of the guarantee is greater than the free shared cells: the first grant").play("reset(16, 1) = 64")
            .refused("NO_ROOM", "grant(0, 17)", "grant(0, 32)")
            .play("grant(0, 16) = NONE; sharedPool() = 0").refused("NO_ROOM", "grant(0, 17)").play("grant(0, 16) = NONE; withdraw(0) = 16");
    }

    private static void grantCells() {
        String used = """
            setReserve(2, 1) = 0
            grant(2, 9) = NONE
            arrive(2, 2, 2) = 0
            arrive(2, 1, 3) = 1
            arrive(2, 0, 2) = 2
            freeGuarantee(2) = 3
            """;
        at(11, "When the guarantee of a port becomes less than the guaranteed cells of its queues").play(used).play("""
            grant(2, 6) = NONE
            guaranteedCells(2, 2) = 2
            sharedCells(2, 2) = 0
            grant(2, 5) = NONE
            guaranteedCells(2, 2) = 1
            sharedCells(2, 2) = 1
            grant(2, 3) = NONE
            guaranteedCells(2, 2) = 0
            guaranteedCells(2, 1) = 2
            grant(2, 1) = NONE
            guaranteedCells(2, 1) = 0
            guaranteedCells(2, 0) = 2
            sharedCells(2, 0) = 0
            sharedCells(2, 1) = 3
            """);
        at(11, "When the guarantee of a port becomes less: the oldest one is withdrawn").play(used).play("""
            grant(0, 1) = NONE
            grant(1, 1) = 2
            guaranteedCells(2, 2) = 0
            guaranteedCells(2, 1) = 0
            guaranteedCells(2, 0) = 1
            sharedCells(2, 2) = 2
            sharedCells(2, 1) = 3
            sharedCells(2, 0) = 1
            freeGuarantee(2) = 0
            """);
        at(11, "When the guarantee of a port becomes less: the reserve covers the cells exactly").play("""
            setReserve(2, 7) = 0
            grant(2, 9) = NONE
            arrive(2, 2, 7) = 0
            grant(0, 1) = NONE
            grant(1, 1) = 2
            guaranteedCells(2, 2) = 7
            sharedCells(2, 2) = 0
            freeGuarantee(2) = 0
            """);
    }

    private static void withdraw() {
        at(12, "Returns the cells of the grant").play("grant(0, 1) = NONE; grant(3, 32) = NONE; withdraw(3) = 32; withdraw(0) = 1;"
            + "sharedPool() = 64");
        at(12, "NONE if the port has no grant (nothing changes then)").busy().refused("NONE", "withdraw(1)").play("withdraw(0) = 2")
            .refused("NONE", "withdraw(0)", "withdraw(1)").play("withdraw(2) = 3").refused("NONE", "withdraw(2)");
        at(12, "NONE if the port has no grant: it has lost it to a third port").play("grant(0, 1) = NONE; grant(1, 1) = NONE;"
            + "grant(2, 1) = 0")
            .refused("NONE", "withdraw(0)", "withdraw(3)");
        at(12, "a port").busy().noSuchPort(3, "withdraw(#)");
        at(12, "When the guarantee of a port becomes less than the guaranteed cells of its queues").play("""
            setReserve(1, 4) = 0
            grant(1, 3) = NONE
            arrive(1, 0, 2) = 0
            arrive(1, 2, 2) = 1
            withdraw(1) = 3
            guaranteedCells(1, 2) = 2
            freeGuarantee(1) = 0
            grant(1, 3) = NONE
            arrive(1, 1, 1) = 2
            withdraw(1) = 3
            guaranteedCells(1, 2) = 1
            sharedCells(1, 2) = 1
            guaranteedCells(1, 1) = 1
            """);
    }
}
