/** The boundary cases of promises 49 to 55 and of 'The text', sentence by sentence. */
public final class BoundaryTextTest {
    private static final Answers A = new Answers();
    private static final int FINE = SharedPacketBuffer.NONE;

    public static void main(String[] args) {
        append();
        clearText();
        lettersOfArrivals();
        lettersOfOtherOrders();
        numbers();
        endsTooEarly();
        firstFault();
        ports();
        fullText();
        run();
        runOrders();
        runWithoutRoom();
        save();
        restore();
        restoreEverything();
        restoreOtherSizes();
        checksum();
        A.end("BoundaryTextTest");
    }

    private static Script at(int promise, String sentence) {
        return new Script(A, "promise " + promise + ", '" + sentence + "'");
    }

    private static void append() {
        at(49, "0 to 127").play("append(0) = 1; append(127) = 2; append(1) = 3; append(126) = 4; clearText() = 4");
        at(49, "0 to 127").busy().refused("BAD_VALUE", "append(-1)", "append(128)", "append(MIN)", "append(MAX)").play("clearText() = 18");
        Script full = at(49, "NO_ROOM if the text has 120 bytes").write("t1;".repeat(39)).play("append(116) = 118; append(50) = 119");
        full.playUnchanged("faultPosition() = 119").play("append(59) = 120").refused("NO_ROOM", "append(59)", "append(0)", "append(127)")
            .play("run() = 0; time() = 41; clearText() = 120; append(97) = 1");
        at(49, "BAD_VALUE; NO_ROOM").write("t1;".repeat(40)).refused("BAD_VALUE", "append(128)", "append(-1)", "append(MAX)", "append(MIN)")
            .refused("NO_ROOM", "append(116)");
    }

    private static void clearText() {
        at(50, "Returns the length that it had: an empty text").playUnchanged("clearText() = 0");
        at(50, "Returns the length that it had: one byte").play("append(0) = 1; clearText() = 1")
            .playUnchanged("clearText() = 0; faultPosition() = NONE; run() = 0");
        at(50, "Returns the length that it had: a full text").write("x".repeat(120)).play("faultPosition() = 0; clearText() = 120;"
            + "faultPosition() = NONE; clearText() = 0").write("t1;").play("run() = 0; time() = 1; clearText() = 3");
    }

    /**
     * Each of the 128 letters behind a beginning. A word 'letters position' names the letters that
     * have another fault position than most, and it; 'letters fine' those that end the text well.
     */
    private static void next(String before, int mostly, String... words) {
        Script s = at(51, "the first byte with which the text does not follow this form: behind '" + before + "'");
        for (char letter = 0; letter < 128; letter++) {
            int due = mostly;
            for (String word : words) {
                String[] parts = word.split(" ");
                if (parts[0].indexOf(letter) >= 0) {
                    due = parts[1].equals("fine") ? FINE : Integer.parseInt(parts[1]);
                }
            }
            s.fault(before + letter, due);
        }
    }

    private static void lettersOfArrivals() {
        next("", 0, "atfg 1");
        next("t1;", 3, "atfg 4");
        next("a", 1, "0123 2");
        next("a0", 2, "012 3");
        next("a00", 3, "123456789 4");
        next("a001", 4, "012 5", "3456789 3", "* 5", "; fine");
        next("a002", 4, "0123456789 3", "* 5", "; fine");
        next("a3212", 5, "0123456789 3", "* 6", "; fine");
        next("a001*", 5, "23456789 6");
        next("a001*2", 6, "0123456789 5", "; fine");
        next("a3212*9", 7, "0123456789 6", "; fine");
    }

    private static void lettersOfOtherOrders() {
        next("t", 1, "123456789 2");
        next("t1", 2, "0123456789 3", "; fine");
        next("t2", 2, "0 3", "123456789 1", "; fine");
        next("t3", 2, "0123456789 1", "; fine");
        next("t20", 3, "0123456789 1", "; fine");
        next("f", 1, "0123 2");
        next("f3", 2, "; fine");
        next("g", 1, "0123 2");
        next("g3", 2, ", 3");
        next("g3,", 3, "123456789 4");
        next("g3,2", 4, "0123456789 5", "; fine");
        next("g3,3", 4, "012 5", "3456789 3", "; fine");
        next("g3,4", 4, "0123456789 3", "; fine");
        next("g3,32", 5, "0123456789 3", "; fine");
    }

    private static void numbers() {
        Script sizes = at(51, "out of its range: a size");
        Script counts = at(51, "a count from 2 to 9");
        Script ticks = at(51, "t and a number of ticks from 1 to 20");
        Script cells = at(51, "a number of cells from 1 to 32");
        for (int number = 0; number <= 120; number++) {
            sizes.fault("a00" + number + ";", number >= 1 && number <= 12 ? FINE : 3);
            sizes.fault("a00" + number + "*2;", number >= 1 && number <= 12 ? FINE : 3);
            counts.fault("a0012*" + number + ";", number >= 2 && number <= 9 ? FINE : 6);
            ticks.fault("t" + number + ";", number >= 1 && number <= 20 ? FINE : 1);
            cells.fault("g0," + number + ";", number >= 1 && number <= 32 ? FINE : 3);
        }
        at(51, "for a number with a leading 0").fault("a0001;", 3).fault("a0000;", 3).fault("a00012;", 3).fault("a001*02;", 5)
            .fault("a001*00;", 5).fault("t01;", 1).fault("t00;", 1).fault("t020;", 1).fault("g0,01;", 3)
            .fault("g0,032;", 3).fault("t0", 1).fault("a000", 3).fault("g0,0", 3).fault("a001*0", 5);
        // Great numbers must not be taken for small ones by a wrap-around: 4294967297 is 1 modulo 2 to the 32nd.
        at(51, "with more than two digits").fault("t100;", 1).fault("t4294967297;", 1).fault("a004294967297;", 3)
            .fault("a001*4294967298;", 5).fault("g0,4294967297;", 3).fault("t18446744073709551617;", 1).fault("t111", 1)
            .fault("t" + "1".repeat(119), 1).fault("a00" + "1".repeat(117), 3).fault("g0," + "9".repeat(117), 3)
            .fault("t" + "0".repeat(118) + "1", 1);
    }

    private static void endsTooEarly() {
        String text = "a3212*9;t20;f3;g0,32;a001;t1;g3,1;";
        Script s = at(51, "if the text ends too early, it is its length");
        for (int length = 0; length <= text.length(); length++) {
            boolean whole = length == 0 || text.charAt(length - 1) == ';';
            s.fault(text.substring(0, length), whole ? FINE : length);
        }
        at(51, "NONE if it has no fault (also if it is empty)").playUnchanged("faultPosition() = NONE").write("t1;")
            .playUnchanged("faultPosition() = NONE");
        at(51, "out of its range: ahead of a text that ends too early").fault("t21", 1).fault("a0013", 3).fault("a001*1", 5)
            .fault("a001*10", 5).fault("g0,33", 3).fault("a04", 2).fault("f4", 1);
    }

    private static void firstFault() {
        at(51, "of the first byte with which the text does not follow this form").fault("t21;x", 1).fault("x;t21;", 0)
            .fault("t1;t21;t22;", 4).fault("a004;a0013;x", 8).fault("a4313*1;", 1).fault("a0313*1;", 2).fault("a0013*1;", 3)
            .fault("a001*1x", 5).fault("g4.33;", 1).fault("g0.33;", 2).fault("g0,33.", 3).fault("f0.", 2);
        at(51, "without blanks").fault(" ", 0).fault("t1; t1;", 3).fault("t 1;", 1).fault("t1 ;", 2).fault("a0 01;", 2).fault("a00 1;", 3)
            .fault("a001 *2;", 4).fault("g0, 1;", 3).fault("t1;\n", 3);
        at(51, "It consists of any number of orders, each followed by a semicolon").fault("", FINE).fault(";", 0).fault("t1;;", 3)
            .fault("t1t1;", 2).fault("t1,t1;", 2).fault("f0f0;", 2).fault("f0;f1;f2;f3;", FINE);
    }

    private static void ports() {
        for (int ports = 1; ports <= 6; ports++) {
            Script s = at(51, "A port is a single digit, that of a port that exists when the text is read")
                .play("reset(64, " + ports + ") = 64");
            for (int port = 0; port <= 9; port++) {
                boolean exists = port < ports;
                s.fault("f" + port + ";", exists ? FINE : 1).fault("a" + port + "01;", exists ? FINE : 1)
                    .fault("g" + port + ",1;", exists ? FINE : 1);
            }
        }
        at(51, "a priority a single digit from 0 to 2 (another digit does not follow this form)").fault("a001;", FINE).fault("a021;", FINE)
            .fault("a031;", 2).fault("a091;", 2).fault("a0/1;", 2).fault("a0:1;", 2);
        at(51, "when the text is read").play("reset(64, 2) = 64").write("f1;f0;").play("faultPosition() = NONE; reset(64, 1) = 64;"
            + "faultPosition() = 1; run() = -1001; reset(64, 6) = 64; faultPosition() = NONE; run() = 0");
        at(51, "when the text is read: after restore()").play("save(0) = 0; reset(64, 6) = 64").write("f5;")
            .play("faultPosition() = NONE; restore(0) = 0; faultPosition() = 1; run() = -1001");
    }

    private static void fullText() {
        at(51, "The text has at most 120 bytes").fault("t1;".repeat(40), FINE).fault("t1;".repeat(39) + "t1,", 119)
            .fault("t1;".repeat(39) + "t1;", FINE).fault("f0;".repeat(39) + "f0", 119)
            .fault("t20;".repeat(30), FINE).fault("t20;".repeat(29) + "g0,1", 120).fault("a0012*9;".repeat(15), FINE)
            .fault("a0012*9;".repeat(14) + "a0012*99", 118).fault("g0,32;".repeat(20), FINE).fault("g0,32;".repeat(19) + "g0,320", 117)
            .fault("x" + "t1;".repeat(39), 0);
        at(51, "The text has at most 120 bytes: what comes behind them is refused").write("t1;".repeat(39) + "t20;")
            .play("faultPosition() = 120; clearText() = 120");
    }

    private static void run() {
        at(52, "Returns the number of arriving packets that are lost: an empty text").playUnchanged("run() = 0");
        at(52, "Returns the number of arriving packets that are lost: all").play("reset(16, 1) = 64; setAlpha(0, 0, 0) = 8")
            .write("a001*9;".repeat(17)).play("run() = 153; losses(0, 3) = 153; lostCells(0) = 153; admitted() = 0");
        at(52, "-1000 minus the fault position: 0").write("x").refused("-1000", "run()");
        at(52, "-1000 minus the fault position: 1").write("t").refused("-1001", "run()");
        at(52, "-1000 minus the fault position: 119").write("t1;".repeat(39) + "t1,").refused("-1119", "run()");
        at(52, "-1000 minus the fault position: 120").write("t20;".repeat(29) + "g0,1").refused("-1120", "run()");
        at(52, "(nothing is carried out then)").busy().play("clearText() = 18").write("a001;t20;f0;g1,1;t21;").refused("-1018", "run()")
            .play("clearText() = 21").write("a001;t20;f0;g1,1").refused("-1016", "run()");
        at(52, "The text stays").write("t20;").play("run() = 0; run() = 0; time() = 40; clearText() = 4; run() = 0; time() = 40");
        at(52, "Carries out the orders of the text, one after the other: 120 bytes").write("t1;".repeat(40))
            .play("run() = 0; time() = 40; clearText() = 120").write("f0;".repeat(40)).play("run() = 0; time() = 40; losses(0, 9) = 0");
    }

    private static void runOrders() {
        at(52, "so many packets arrive one after the other, or one without a count").play("setReserve(0, 64) = 0").write("a001;")
            .play("run() = 0; admitted() = 1; clearText() = 5").write("a001*2;").play("run() = 0; admitted() = 3; clearText() = 7")
            .write("a001*9;").play("run() = 0; admitted() = 12; queueLength(0, 0) = 12; sharedPool() = 0; guaranteedCells(0, 0) = 12");
        at(52, "a, a port, a priority, a size: the greatest and the least").play("reset(64, 6) = 64").write("a5212;a001;")
            .play("run() = 0; packetAt(5, 2, 0) = 0; fragmentLength(0, 0) = 12; packetAt(0, 0, 0) = 1; fragmentLength(1, 0) = 1");
        at(52, "t and a number of ticks from 1 to 20").write("t1;").play("run() = 0; time() = 1; clearText() = 3").write("t20;")
            .play("run() = 0; time() = 21");
        at(52, "g, a port, a comma and a number of cells from 1 to 32").write("g0,1;g3,32;")
            .play("run() = 0; grantOf(0) = 1; grantOf(3) = 32; sharedPool() = 31; clearText() = 11").write("g1,1;")
            .play("run() = 0; grantOf(0) = 0; grantOf(1) = 1");
        at(52, "f and a port (flush): no packets").write("f0;f3;").playUnchanged("run() = 0");
        at(52, "f and a port (flush): all packets").write("a001*9;a0112;f0;").play("run() = 0; losses(0, 9) = 10; lostCells(0) = 21;"
            + "freeRuns() = 1; departed(0) = 0");
        at(52, "the number of arriving packets that are lost: not those that are flushed or pushed out")
            .play("reset(16, 1) = 64; setPushOut(true) = 0; setAlpha(0, 2, 64) = 8; setAlpha(0, 0, 64) = 8").write("a0212;a009;f0;")
            .play("run() = 0; losses(0, 8) = 1; losses(0, 9) = 1");
    }

    private static void runWithoutRoom() {
        at(52, "An order whose method would report an error (a grant without room) changes nothing")
            .play("reset(16, 3) = 64; setReserve(0, 14) = 0").write("g1,3;").refused("0", "run()").play("clearText() = 5").write("g1,2;")
            .play("run() = 0; grantOf(1) = 2; freeShared() = 0");
        at(52, "An order whose method would report an error: the others are carried out").play("reset(16, 4) = 64; setReserve(0, 12) = 0")
            .write("g1,2;g2,2;g3,3;t5;a111;").play("run() = 0; grantOf(1) = 2; grantOf(2) = 2; grantOf(3) = 0;"
            + "time() = 5; queueLength(1, 1) = 1; clearText() = 23").write("g3,2;").play("run() = 0; grantOf(1) = 2; grantOf(3) = 0;"
            + "clearText() = 5").write("g3,1;").play("run() = 0; grantOf(1) = 0; grantOf(3) = 1; freeShared() = 0");
    }

    private static void save() {
        at(53, "0 or 1").busy().refused("BAD_INDEX", "save(-1)", "save(2)", "save(MIN)", "save(MAX)").play("save(0) = 1; save(1) = 1");
        at(53, "Returns the time").play("save(0) = 0; ticks(20) = 0; save(0) = 20; save(1) = 20; ticks(1) = 0; save(1) = 21;"
            + "restore(0) = 20; restore(1) = 21");
        at(53, "in place of what the slot keeps").busy().play("save(1) = 1; reset(16, 1) = 48; save(1) = 0; ticks(1) = 0; restore(1) = 0;"
            + "time() = 0; sharedPool() = 16; credit(1) = BAD_INDEX");
        at(53, "Saves everything except the text and the slots").write("t1;").play("save(0) = 0; clearText() = 3; restore(0) = 0;"
            + "clearText() = 0").write("f0;").play("restore(0) = 0; clearText() = 3");
        at(53, "Saves everything except the text and the slots: a full text").write("t1;".repeat(40)).play("save(0) = 0; restore(0) = 0")
            .refused("NO_ROOM", "append(59)").play("clearText() = 120; restore(0) = 0; append(59) = 1");
        at(53, "the slots: the other one stays").play("save(0) = 0; ticks(1) = 0; save(1) = 1; ticks(1) = 0; save(0) = 2; restore(1) = 1;"
            + "restore(0) = 2; restore(1) = 1");
    }

    private static void restore() {
        at(54, "0 or 1").busy().refused("BAD_INDEX", "restore(-1)", "restore(2)", "restore(MIN)", "restore(MAX)");
        at(54, "NONE if nothing has been saved in the slot (nothing changes then)").busy().refused("NONE", "restore(0)")
            .play("restore(1) = 0").refused("NONE", "restore(0)").play("save(0) = 0; ticks(1) = 1; restore(0) = 0");
        at(54, "NONE if nothing has been saved in the slot: reset() saves nothing").play("reset(16, 1) = 64")
            .refused("NONE", "restore(0)", "restore(1)");
        at(54, "Makes everything .. as it was saved: nothing has happened since").busy().play("save(0) = 1")
            .playUnchanged("restore(0) = 1; save(0) = 1");
        at(54, "The slot keeps it").busy().play("restore(1) = 0; time() = 0; flush(0) = 3; ticks(20) = 2; restore(1) = 0;"
            + "queueLength(0, 0) = 1; queueLength(0, 1) = 1; queueLength(1, 1) = 1; time() = 0; flush(1) = 1; restore(1) = 0;"
            + "queueLength(1, 1) = 1");
    }

    private static void restoreEverything() {
        String spoil = "grant(5, 9) = NONE; grant(4, 9) = NONE; setAlpha(0, 0, 0) = 8; setBurst(0, 1, 9, 3) = 0;"
            + "setScheduler(1, true, 9) = 4; arrive(0, 0, 3) = LOST; arrive(5, 2, 12) = 0; arrive(4, 2, 12) = 1;"
            + "arrive(0, 1, 7) = 2; arrive(0, 2, 7) = 3; flush(5) = 1; flush(0) = 2; ticks(3) = 1;";
        Script plain = at(54, "Makes everything except the text and the slots as it was saved").busy().play("save(0) = 1");
        at(54, "Makes everything except the text and the slots as it was saved").busy().play("save(0) = 1; reset(128, 6) = 48").play(spoil)
            .play("restore(0) = 1").sameAs(plain);
        // A packet of four fragments, a loss of each kind, and a full memory.
        String pieces = """
            reset(16, 3) = 64
            setReserve(0, 6) = 0
            setReserve(1, 6) = 0
            setPushOut(true) = 0
            setAlpha(2, 0, 64) = 8
            arrive(0, 0, 1) = 0
            arrive(1, 0, 1) = 1
            arrive(0, 0, 1) = 2
            arrive(1, 0, 1) = 3
            arrive(0, 0, 1) = 4
            arrive(1, 0, 1) = 5
            arrive(0, 0, 1) = 6
            arrive(2, 0, 4) = 7
            flush(0) = 4
            arrive(1, 2, 3) = 8
            arrive(1, 0, 2) = 9
            losses(1, 8) = 1
            arrive(1, 1, 1) = 10
            arrive(0, 1, 6) = 11
            fragments(11) = 4
            freeRuns() = 0
            arrive(1, 1, 1) = LOST
            arrive(0, 1, 1) = LOST
            """;
        Script whole = at(54, "Makes everything except the text and the slots as it was saved").play(pieces).play("save(0) = 0");
        Script broken = at(54, "Makes everything except the text and the slots as it was saved").play(pieces)
            .play("save(0) = 0; reset(16, 1) = 16; setReserve(0, 16) = 0");
        for (int i = 0; i < 16; i++) {
            broken.play("arrive(0, 1, 1) = " + i);
        }
        broken.play("restore(0) = 0").sameAs(whole);
        // The turn is that of priority 1, and its quantum has been added.
        String turned = "setScheduler(0, true, 1) = 4; arrive(0, 0, 4) = 0; arrive(0, 0, 4) = 1; arrive(0, 1, 4) = 2; arrive(0, 1, 4) = 3;"
            + "ticks(4) = 1; deficit(0, 1) = 4; save(0) = 4;";
        Script turn = at(54, "Makes everything except the text and the slots as it was saved: turn and flag").play(turned);
        at(54, "Makes everything except the text and the slots as it was saved: turn and flag").play(turned)
            .play("flush(0) = 3; restore(0) = 4").sameAs(turn);
    }

    private static void restoreOtherSizes() {
        at(54, "as it was saved: the least memory and the greatest").play("reset(16, 1) = 64; setReserve(0, 16) = 0; arrive(0, 0, 12) = 0;"
            + "arrive(0, 2, 4) = 1; save(0) = 0; reset(128, 6) = 16; setReserve(5, 64) = 0; arrive(5, 0, 12) = 0; save(1) = 0;"
            + "restore(0) = 0; freeRuns() = 0; credit(1) = BAD_INDEX; fragmentStart(1, 0) = 12; arrive(0, 0, 1) = LOST; restore(1) = 0;"
            + "freeRuns() = 1; runStart(0) = 12; runLength(0) = 116; credit(5) = 0; fragments(1) = BAD_INDEX;"
            + "freeGuarantee(5) = 52; reset(16, 1) = 128; restore(0) = 0; reset(17, 1) = 16");
        at(54, "as it was saved: no loss on arrival yet").play("save(0) = 0; setAlpha(0, 0, 0) = 8; arrive(0, 0, 1) = LOST;"
            + "lossCause(2) = OVER_THRESHOLD; restore(0) = 0; lossCause(2) = NONE; losses(0, 3) = 0; threshold(0, 0) = 64");
        at(54, "as it was saved: the next packet's number").play("arrive(0, 0, 1) = 0; save(0) = 0; arrive(0, 0, 1) = 1;"
            + "arrive(0, 0, 1) = 2; restore(0) = 0; admitted() = 1; fragments(1) = BAD_INDEX; arrive(0, 0, 2) = 1;"
            + "fragmentLength(1, 0) = 2");
    }

    private static void checksum() {
        long[] empty = new long[4 + 26 * 6 + 2];
        empty[2] = 128;
        empty[3] = 128;
        empty[empty.length - 1] = 128;
        at(55, "h becomes 31 * h + value (as longs, with overflow): the most ports, an empty memory").play("reset(128, 6) = 64")
            .checksum(empty);
        at(55, "for each free run its first cell and its number of cells: none").play("reset(16, 1) = 64; setReserve(0, 16) = 0;"
            + "arrive(0, 1, 12) = 0; arrive(0, 1, 4) = 1").checksum(0, 2, 0, 0,
            0, 0, 0, 0, 0,
            0, 0, 0, 0, 0, 0, 0,
            16, 0, 0, 0, 0, 0, 2, 0, 0, 1, 12,
            0, 0, 0, 0, 0, 0, 0);
        at(55, "time(), admitted(), freeShared(), sharedPool(); for each port ..").busy().checksum(1, 6, 21, 31,
            0, 2, 3, 0, 0,
            6, 1, 0, 5, 0, 4, 1, 0, 0,
            0, 5, 0, 0, 0, 6, 1, 2, 11,
            0, 3, 0, 0, 0, 0, 1, 3, 16,
            0, 0, 0, 1, 3,
            0, 0, 0, 0, 0, 0, 0,
            0, 0, 2, 0, 1, 0, 1, 5, 7,
            0, 0, 0, 0, 0, 0, 0,
            0, 3, 4, 0, 0,
            5, 1, 0, 0, 0, 0, 1, 4, 19,
            0, 0, 0, 0, 0, 0, 0,
            0, 0, 0, 0, 0, 0, 0,
            9, 2, 25, 23);
        at(55, "the first cell of each of its fragments: two of them, and one free run").play("reset(16, 2) = 64; setReserve(0, 8) = 0;"
            + "setReserve(1, 8) = 0; arrive(0, 0, 2) = 0; arrive(1, 0, 5) = 1; arrive(0, 0, 6) = 2; flush(0) = 2;"
            + "arrive(1, 2, 3) = 3; arrive(0, 0, 7) = 4; flush(1) = 2").checksum(0, 5, 0, 0,
            1, 0, 0, 0, 8,
            7, 0, 0, 0, 0, 0, 1, 4, 10, 0,
            0, 0, 0, 0, 0, 0, 0,
            0, 0, 0, 0, 0, 0, 0,
            8, 0, 0, 0, 8,
            0, 0, 0, 0, 0, 0, 0,
            0, 0, 0, 0, 0, 0, 0,
            0, 0, 0, 0, 0, 0, 0,
            1, 9);
    }
}
