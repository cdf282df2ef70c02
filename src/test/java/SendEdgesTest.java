/** The edges that the document names of what a SIDE sends, and of what becomes of it: promises 8 to 11. */
public final class SendEdgesTest {
    private SendEdgesTest() {
    }

    public static void main(String[] args) {
        weights();
        spans();
        room();
        roomForBounds();
        roomForCutOff();
        roomForBytes();
        openAndShut();
        probe();
        again();
        ends();
        turns();
        numbersFull(0);
        numbersFull(1);
        netFull();
        comes();
        Rows.close();
    }

    private static void weights() {
        Rows.run("1 BYTES: 8 and their number", "write 0 1 = 1; send 0 = 0; packet 0 0 2 = 19; write 0 2 = 3",
            "send 0 = 1; packet 0 1 2 = 20; write 0 177 = 180; send 0 = 2; packet 0 2 2 = 195; side 0 1 = 234");
        Rows.run("1 END alone has no number", "end 0 = 1; send 0 = 0; packet 0 0 2 = 18; part 0 0 0 3 = 10000");
        Rows.run("1 END with bytes is as heavy as these", "write 0 7 = 7; end 0 = 1; send 0 = 0; packet 0 0 2 = 25");
        Rows.run("1 CUT OFF: 7", "cut 0 = 1; send 0 = 0; packet 0 0 2 = 17; cut 2 = 1; cut 4 = 1; send 0 = 1",
            "packet 0 1 2 = 24");
        Rows.run("1 PING: 1", "cut 0 = 1; send 0 = 0; tick 8 = 8; send 0 = 1; packet 0 1 2 = 11; packet 0 1 3 = 1");
        Rows.run("1 BOUND: 5, BOUND OF ALL: 5",
            "shape 200 50 100 = 1; write 0 50 = 50; write 2 50 = 50; send 0 = 0; come 0 = 1; send 1 = 0",
            "packet 1 0 2 = 16; read 0 25 = 25; send 1 = 1; packet 1 1 2 = 15; part 1 1 0 0 = 2; read 0 24 = 24",
            "read 2 1 = 1; send 1 = 2; packet 1 2 2 = 15; part 1 2 0 0 = 3; part 1 2 0 2 = 150");
        Rows.run("1 ASK: 9, ANSWER: 9", "write 0 90 = 90; move = 1; send 0 = 0; come 0 = 1; send 1 = 0",
            "packet 1 0 2 = 25; part 1 0 1 0 = 6; come 0 = 1; send 0 = 1; packet 0 1 2 = 25; part 0 1 1 0 = 7",
            "packet 0 1 4 = 1");
    }

    private static void spans() {
        Rows.run("1 TOLD: 6, and 4 for each span but the first; four at most, the highest first",
            "shape 60 1000 4000 = 1; write 0 378 = 378; send 0 x9 = " + Rows.numbers(0, 8), "come 0 = 1; send 1 = 0",
            "packet 1 0 2 = 16; part 1 0 0 3 = 1; part 1 0 0 4 = 0; part 1 0 0 5 = 0; part 1 0 0 6 = -6; come 1 = 1",
            "send 1 = 1; packet 1 1 2 = 20; part 1 1 0 3 = 2; part 1 1 0 4 = 2; part 1 1 0 5 = 2; part 1 1 0 6 = 0",
            "part 1 1 0 7 = 0; part 1 1 0 8 = -6; come 2 = 1; send 1 = 2; packet 1 2 2 = 24; part 1 2 0 3 = 3",
            "part 1 2 0 8 = 0; part 1 2 0 9 = 0; part 1 2 0 10 = -6; come 3 = 1; send 1 = 3; packet 1 3 2 = 28",
            "part 1 3 0 3 = 4; part 1 3 0 4 = 6; part 1 3 0 10 = 0; part 1 3 0 11 = 0; come 4 = 1; send 1 = 4",
            "packet 1 4 2 = 28; part 1 4 0 3 = 4; part 1 4 0 4 = 8; part 1 4 0 5 = 8; part 1 4 0 10 = 2",
            "part 1 4 0 11 = 2; packet 0 8 7 = 1; packet 0 0 7 = 1; packet 1 4 4 = 0; side 1 1 = 0");
        Rows.run("1 a number that comes between joins two spans",
            "shape 60 1000 4000 = 1; write 0 378 = 378; send 0 x9 = " + Rows.numbers(0, 8),
            "come 0 = 1; come 1 = 1; send 1 = 0; part 1 0 0 3 = 2; come 0 = 1; send 1 = 1; part 1 1 0 3 = 1",
            "part 1 1 0 4 = 0; part 1 1 0 5 = 2; packet 1 1 2 = 16");
        Rows.run("1 TOLD is of the other SIDE's numbers", "write 0 1 = 1; write 1 1 = 1; send 1 x2 = 0 -5",
            "write 1 1 = 2; send 1 = 1; write 1 1 = 3; send 1 = 2; come 0 x3 = 1; send 0 = 0; part 0 0 0 4 = 0",
            "part 0 0 0 5 = 2; come 0 = 1; send 1 = 3; part 1 3 0 4 = 0; part 1 3 0 5 = 0");
    }

    private static void room() {
        for (int room : new int[] {60, 61, 62, 199, 200, 201, 999, 1000}) {
            int n = room - 18;
            String shape = "shape " + room + " 1000 4000 = 1; ";
            Rows.run("1 one below ROOM " + room, shape + "write 0 " + (n - 1) + " = " + (n - 1) + "; send 0 = 0",
                "packet 0 0 2 = " + (room - 1) + "; part 0 0 0 3 = " + (n - 1) + "; send 0 = -5");
            Rows.run("1 as much as ROOM " + room, shape + "write 0 " + n + " = " + n + "; send 0 = 0",
                "packet 0 0 2 = " + room + "; part 0 0 0 3 = " + n + "; send 0 = -5");
            Rows.run("1 one above ROOM " + room, shape + "write 0 " + (n + 1) + " = " + (n + 1) + "; end 0 = 1",
                "send 0 = 0; packet 0 0 2 = " + room + "; part 0 0 0 3 = " + n + "; send 0 = 1; part 0 1 0 3 = 10001");
        }
        Rows.run("1 ROOM is 200 at first", "write 0 183 = 183; send 0 x2 = 0 1; packet 0 0 2 = 200; packet 0 1 2 = 19");
    }

    /** SIDE 1 owes TOLD of four spans, ASK, four BOUNDS and that OF ALL: 10, 18, 9, 20 and 5. */
    private static String[] muchOwed(int room) {
        return new String[] {"shape " + room + " 50 104 = 1; move = 1; write 0 25 = 25; send 0 = 0; write 0 1 = 26; "
            + "send 0 = 1",
            "write 2 25 = 25; send 0 = 2; write 2 1 = 26; send 0 = 3; write 4 25 = 25; send 0 = 4; write 4 1 = 26",
            "send 0 = 5; write 6 25 = 25; send 0 = 6; come 0 = 1; drop 0 = 5; come 0 = 1; drop 0 = 3; come 0 = 1",
            "drop 0 = 1; come 0 = 1; read 0 25 = 25; read 2 25 = 25; read 4 25 = 25; read 6 25 = 25; side 1 15 = 1",
            "told 4 = 1; told 5 = 172"};
    }

    private static void roomForBounds() {
        for (int room : new int[] {60, 61}) {
            Rows.run("2 no room for the BOUND OF ALL: it stays OWED", SendTest.with(muchOwed(room),
                "send 1 = 0; packet 1 0 2 = 57; packet 1 0 3 = 6; part 1 0 0 3 = 4; part 1 0 1 0 = 6; part 1 0 2 1 = 0",
                "part 1 0 5 1 = 6; side 1 15 = 1; side 1 16 = 104; stream 6 12 = 0; stream 6 11 = 75; send 1 = 1",
                "packet 1 1 2 = 15; part 1 1 0 0 = 3; part 1 1 0 2 = 204; side 1 15 = 0; side 1 16 = 204",
                "send 1 = -5"));
        }
        Rows.run("2 room for the BOUND OF ALL", SendTest.with(muchOwed(62),
            "send 1 = 0; packet 1 0 2 = 62; packet 1 0 3 = 7; part 1 0 6 0 = 3; part 1 0 6 2 = 204; side 1 15 = 0",
            "send 1 = -5"));
        Rows.run("2 no room behind the BOUND OF ALL", SendTest.with(muchOwed(66),
            "cut 1 = 1; send 1 = 0; packet 1 0 2 = 62; packet 1 0 3 = 7; part 1 0 6 0 = 3; send 1 = 1",
            "packet 1 1 2 = 17; part 1 1 0 0 = 5"));
    }

    private static void roomForCutOff() {
        Rows.run("2 room for one CUT OFF, not for two", SendTest.with(cutOffOwed(60, true),
            "cut 7 = 1; cut 3 = 1; send 1 = 0; packet 1 0 2 = 60; packet 1 0 3 = 7; part 1 0 6 0 = 5; part 1 0 6 1 = 3",
            "send 1 = 1; packet 1 1 2 = 17; part 1 1 0 1 = 7; send 1 = -5"));
        Rows.run("2 no room for CUT OFF by one: it stays OWED", SendTest.with(cutOffOwed(60, false),
            "cut 7 = 1; send 1 = 0; packet 1 0 2 = 54; packet 1 0 3 = 7; part 1 0 6 0 = 3; stream 7 2 = 1; send 1 = 1",
            "packet 1 1 2 = 17; part 1 1 0 0 = 5; part 1 1 0 1 = 7; send 1 = -5"));
        Rows.run("2 room for CUT OFF by none", SendTest.with(cutOffOwed(61, false),
            "cut 7 = 1; send 1 = 0; packet 1 0 2 = 61; packet 1 0 3 = 8; part 1 0 7 0 = 5; send 1 = -5"));
        Rows.run("2 room for all CUT OFF", "cut 1 = 1; cut 3 = 1; cut 5 = 1; cut 7 = 1; send 1 = 0; packet 1 0 2 = 38",
            "part 1 0 0 1 = 1; part 1 0 1 1 = 3; part 1 0 2 1 = 5; part 1 0 3 1 = 7; send 1 = -5");
    }

    /** Four spans, four BOUNDS and that OF ALL are OWED; or two spans, ASK and these. */
    private static String[] cutOffOwed(int room, boolean fourSpans) {
        return new String[] {"shape " + room + " 50 104 = 1" + (fourSpans ? "" : "; move = 1"),
            "write 0 25 = 25; send 0 = 0; write 0 1 = 26; send 0 = 1; write 2 25 = 25; send 0 = 2; write 2 1 = 26",
            "send 0 = 3; write 4 25 = 25; send 0 = 4; write 4 1 = 26; send 0 = 5; write 6 25 = 25; send 0 = 6",
            fourSpans ? "come 0 = 1; drop 0 = 5; come 0 = 1; drop 0 = 3; come 0 = 1; drop 0 = 1; come 0 = 1"
                : "come 0 = 1; drop 0 = 5; come 0 x5 = 1",
            "read 0 25 = 25; read 2 25 = 25; read 4 25 = 25; read 6 25 = 25"};
    }

    private static void roomForBytes() {
        String shape = "shape 60 1000 4000 = 1; ";
        Rows.run("2 room for one byte of the second", shape + "write 0 33 = 33; write 2 2 = 2; send 0 = 0",
            "packet 0 0 2 = 60; packet 0 0 3 = 2; part 0 0 1 3 = 1; stream 2 3 = 1");
        Rows.run("2 room for none of its bytes: no part", shape + "write 0 34 = 34; write 2 2 = 2; send 0 = 0",
            "packet 0 0 2 = 52; packet 0 0 3 = 1; stream 2 3 = 0; send 0 = 1; part 0 1 0 1 = 2; part 0 1 0 3 = 2");
        Rows.run("2 no room for the second, room for END of the third",
            shape + "write 0 34 = 34; write 2 2 = 2; end 4 = 1; send 0 = 0; packet 0 0 2 = 60; packet 0 0 3 = 2",
            "part 0 0 1 1 = 4; part 0 0 1 3 = 10000");
        Rows.run("2 bytes that have no room do not go as END alone",
            shape + "write 0 34 = 34; write 2 2 = 2; end 2 = 1; send 0 = 0; packet 0 0 3 = 1; send 0 = 1",
            "part 0 1 0 1 = 2; part 0 1 0 3 = 10002");
        Rows.run("2 no room for END by one", shape + "write 0 35 = 35; end 2 = 1; send 0 = 0; packet 0 0 2 = 53",
            "packet 0 0 3 = 1; send 0 = 1; packet 0 1 2 = 18");
        Rows.run("2 the last byte has room: END goes with it", shape + "write 0 33 = 33; write 2 1 = 1; end 2 = 1",
            "send 0 = 0; part 0 0 1 3 = 10001; packet 0 0 2 = 60; send 0 = -5");
        Rows.run("2 the last byte but one has room: END does not go",
            shape + "write 0 33 = 33; write 2 2 = 2; end 2 = 1; send 0 = 0; part 0 0 1 3 = 1; send 0 = 1",
            "part 0 1 0 2 = 1; part 0 1 0 3 = 10001");
    }

    private static void openAndShut() {
        String open = "shape 60 1000 4000 = 1; write 0 336 = 336; send 0 x8 = " + Rows.numbers(0, 7) + "; "
            + "side 0 1 = 480";
        Rows.run("2 FLIGHT and ROOM together as much as OPEN", open, "write 0 23 = 359; send 0 = 8; side 0 1 = 521",
            "write 0 1 = 360; send 0 = 9; side 0 1 = 540; write 0 1 = 361; send 0 = 10; side 0 1 = 559",
            "write 0 1 = 362; send 0 = -5; stream 0 3 = 361");
        Rows.run("2 FLIGHT and ROOM together one above OPEN", open, "write 0 24 = 360; send 0 = 8; side 0 1 = 522",
            "write 0 1 = 361; send 0 = 9; side 0 1 = 541; write 0 1 = 362; send 0 = -5; cut 2 = 1; send 0 = -5",
            "end 4 = 1; send 0 = -5; side 0 0 = 10");
        Rows.run("2 shut: TOLD goes, nothing more", open, "write 0 90 = 426; send 0 x2 = 8 9; send 0 = -5; cut 2 = 1",
            "write 1 60 = 60; send 1 x2 = 0 1; come 10 x2 = 1; read 1 60 = 60; send 0 = 10; packet 0 10 2 = 16",
            "packet 0 10 3 = 1; packet 0 10 4 = 0; side 0 1 = 600; send 0 = -5");
        Rows.run("2 OPEN is the SIDE's own", open, "write 0 90 = 426; send 0 x2 = 8 9; send 0 = -5; write 1 5 = 5",
            "send 1 = 0; side 1 1 = 23; side 1 2 = 600");
        Rows.run("2 LOST ones and those TOLD of leave FLIGHT", open, "write 0 126 = 462; send 0 x2 = 8 9; send 0 = -5",
            "come 3 = 1; send 1 = 0; come 9 = 1; packet 0 0 6 = 1; side 0 1 = 480; side 0 2 = 330; send 0 = -5");
    }

    private static void probe() {
        Rows.run("2 PING where the PACKET is not HEAVY: behind TOLD",
            "cut 0 = 1; send 0 = 0; write 1 1 = 1; send 1 = 0; come 1 = 1; tick 8 = 8; side 0 9 = 1; send 0 = 1",
            "packet 0 1 3 = 2; part 0 1 0 0 = 1; part 0 1 1 0 = 8; packet 0 1 2 = 17; packet 0 1 4 = 1; side 0 9 = 0");
        Rows.run("2 no PING where the PACKET is HEAVY", "cut 0 = 1; send 0 = 0; tick 8 = 8; cut 2 = 1; send 0 = 1",
            "packet 0 1 3 = 1; part 0 1 0 0 = 5; side 0 9 = 0; send 0 = -5");
        Rows.run("2 no PING where no PROBE is OWED", "cut 0 = 1; send 0 = 0; tick 7 = 7; side 0 9 = 0; send 0 = -5");
        Rows.run("2 a PROBE that is OWED opens, once",
            "shape 60 1000 4000 = 1; write 0 500 = 500; send 0 x10 = " + Rows.numbers(0, 9), "send 0 = -5; tick 8 = 8",
            "side 0 9 = 1; send 0 = 10; part 0 10 0 0 = 4; packet 0 10 2 = 60; side 0 9 = 0; side 0 1 = 660",
            "send 0 = -5");
        Rows.run("2 a PROBE is the SIDE's own", "cut 0 = 1; send 0 = 0; tick 8 = 8; side 0 9 = 1; side 1 9 = 0",
            "send 1 = -5; come 0 = 1; send 1 = 0; packet 1 0 3 = 1; side 0 9 = 1");
    }

    private static void again() {
        // Of five PACKETS of 42 bytes the second comes, and the fifth.
        String lost = "shape 60 1000 4000 = 1; write 0 210 = 210; send 0 x5 = 0 1 2 3 4; come 1 = 1; come 3 = 1; "
            + "send 1 = 0;"
            + "come 3 = 1; packet 0 0 6 = 1; packet 0 1 5 = 1; packet 0 2 6 = 0; stream 0 5 = 42";
        Rows.run("2 AGAIN goes first, END not with it: a byte is never sent", lost, "write 0 10 = 220; end 0 = 1",
            "send 0 = 5; part 0 5 0 2 = 0; part 0 5 0 3 = 42; send 0 = 6; part 0 6 0 2 = 210; part 0 6 0 3 = 10010");
        Rows.run("2 END goes with AGAIN: no byte is never sent then", lost, "end 0 = 1; send 0 = 5; part 0 5 0 2 = 0",
            "part 0 5 0 3 = 10042; send 0 = -5");
        Rows.run("2 the first run, as far as there is room", lost, "write 2 1 = 1; cut 4 = 1; send 0 = 5",
            "packet 0 5 3 = 3; part 0 5 0 0 = 5; part 0 5 1 1 = 2; part 0 5 2 2 = 0; part 0 5 2 3 = 26",
            "stream 0 5 = 16; send 0 = 6; part 0 6 0 2 = 26; part 0 6 0 3 = 16; packet 0 6 2 = 34; stream 0 5 = 0");
        Rows.run("2 the first run alone, though there is room",
            "write 0 9 = 9; send 0 = 0; write 0 9 = 18; send 0 = 1; write 0 9 = 27; send 0 = 2; write 0 9 = 36",
            "send 0 = 3; write 2 1 = 1; send 0 = 4; write 2 1 = 2; send 0 = 5; come 1 = 1; come 4 = 1; send 1 = 0",
            "come 4 = 1; packet 0 0 6 = 1; packet 0 1 5 = 1; packet 0 2 6 = 1; packet 0 3 6 = 0; stream 0 5 = 18",
            "send 0 = 6; packet 0 6 3 = 1; part 0 6 0 2 = 0; part 0 6 0 3 = 9; send 0 = 7; part 0 7 0 2 = 18",
            "part 0 7 0 3 = 9; stream 0 5 = 0; send 0 = -5");
        Rows.run("2 AGAIN needs no BOUND", "shape 60 50 50 = 1; write 0 60 = 60; send 0 x2 = 0 1; cut 2 = 1",
            "send 0 = 2; cut 4 = 1; send 0 = 3; come 3 = 1; send 1 = 0; come 3 = 1; packet 0 0 6 = 1; stream 0 6 = 50",
            "side 0 13 = 50; side 0 14 = 50; send 0 = 4; part 0 4 0 2 = 0; part 0 4 0 3 = 42; side 0 14 = 50",
            "stream 0 3 = 50; send 0 = -5");
    }

    private static void ends() {
        Rows.run("2 END with the last byte that the BOUND lets", "shape 200 50 4000 = 1; write 0 50 = 50; end 0 = 1",
            "send 0 = 0; part 0 0 0 3 = 10050; send 0 = -5");
        Rows.run("2 no END where the BOUND lets one byte less", "shape 200 50 4000 = 1; write 0 51 = 51; end 0 = 1",
            "send 0 = 0; part 0 0 0 3 = 50; send 0 = -5; stream 0 1 = 1");
        Rows.run("2 END alone where both BOUNDS let no byte", "shape 200 50 50 = 1; write 0 50 = 50; send 0 = 0",
            "end 0 = 1; send 0 = 1; part 0 1 0 1 = 0; part 0 1 0 2 = 50; part 0 1 0 3 = 10000; end 2 = 1; send 0 = 2",
            "part 0 2 0 1 = 2; part 0 2 0 2 = 0; part 0 2 0 3 = 10000; send 0 = -5; side 0 14 = 50");
        Rows.run("2 END from the last byte there can be", "shape 1000 1000 4000 = 1; write 0 1000 = 1000",
            "send 0 x2 = 0 1; end 0 = 1; send 0 = 2; part 0 2 0 2 = 1000; part 0 2 0 3 = 10000; come 2 = 1",
            "stream 0 13 = 1000; stream 0 8 = 0");
        Rows.run("2 END is sent once", "end 0 = 1; send 0 = 0; send 0 = -5; come 0 = 1; stream 0 7 = 0; send 0 = -5",
            "send 1 = 0; come 0 = 1; stream 0 7 = 1; send 0 = -5");
        Rows.run("2 END goes AGAIN with the bytes that do, once",
            "shape 60 1000 4000 = 1; write 0 84 = 84; end 0 = 1; send 0 x2 = 0 1; write 2 1 = 1; send 0 = 2",
            "write 2 1 = 2; send 0 = 3; write 2 1 = 3; send 0 = 4; come 4 = 1; send 1 = 0; come 4 = 1",
            "packet 0 0 6 = 1; packet 0 1 6 = 1; stream 0 5 = 84; send 0 = 5; part 0 5 0 3 = 10042; send 0 = 6",
            "part 0 6 0 2 = 42; part 0 6 0 3 = 42; send 0 = -5");
        Rows.run("2 END that went AGAIN with a run is LOST with that run alone",
            "shape 60 1000 4000 = 1; write 0 100 = 100; end 0 = 1; send 0 x3 = 0 1 2; write 2 1 = 1; send 0 = 3",
            "write 2 1 = 2; send 0 = 4; write 2 1 = 3; send 0 = 5; come 5 = 1; send 1 = 0; come 5 = 1",
            "stream 0 5 = 100; send 0 x3 = 6 7 8; part 0 6 0 3 = 10042; part 0 7 0 3 = 42; part 0 8 0 3 = 16",
            "write 2 1 = 4; send 0 = 9; come 8 = 1; send 1 = 1; come 8 = 1; packet 0 6 6 = 1; packet 0 7 6 = 0",
            "stream 0 5 = 42; state 0 41 = 2; state 0 42 = 1; stream 0 7 = 0; send 0 = 10; part 0 10 0 2 = 0",
            "part 0 10 0 3 = 10042");
    }

    private static void turns() {
        String two = "shape 60 1000 4000 = 1; write 0 100 = 100; write 2 100 = 100; write 4 100 = 100; "
            + "write 6 100 = 100; ";
        Rows.run("2 what is CUT OFF is passed over", two + "send 0 = 0; cut 2 = 1; send 0 = 1; packet 0 1 3 = 2",
            "part 0 1 0 0 = 5; part 0 1 1 1 = 4; send 0 = 2; part 0 2 0 1 = 6; send 0 = 3; part 0 3 0 1 = 0",
            "part 0 3 0 2 = 42");
        Rows.run("2 the last that had a part, not the first", "shape 60 1000 4000 = 1; write 0 10 = 10",
            "write 2 80 = 80; send 0 = 0; part 0 0 0 1 = 0; part 0 0 1 1 = 2; part 0 0 1 3 = 24; write 0 50 = 60",
            "write 4 42 = 42; send 0 = 1; part 0 1 0 1 = 4; send 0 = 2; part 0 2 0 1 = 0; send 0 = 3",
            "part 0 3 0 1 = 2");
        Rows.run("2 END alone is a part, too", "shape 60 1000 4000 = 1; end 2 = 1; send 0 = 0; write 0 42 = 42",
            "write 4 42 = 42; send 0 = 1; part 0 1 0 1 = 4; send 0 = 2; part 0 2 0 1 = 0");
        Rows.run("2 NO leaves the turn", "shape 60 1000 4000 = 1; write 0 42 = 42; send 0 = 0",
            "send 0 = -5; write 0 42 = 84; write 2 42 = 42; send 0 = 1; part 0 1 0 1 = 2; send 0 = 2; part 0 2 0 1 = 0",
            "send 0 = -5");
        Rows.run("2 behind the last is the first, of SIDE 1", "shape 60 1000 4000 = 1; write 7 42 = 42; send 1 = 0",
            "write 5 42 = 42; write 1 42 = 42; write 7 42 = 84; send 1 x3 = 1 2 3; part 1 1 0 1 = 1; part 1 2 0 1 = 5",
            "part 1 3 0 1 = 7");
    }

    /** 300 PACKETS in few calls: what is LOST goes AGAIN, and without ticks OPEN falls but once. */
    private static void numbersFull(int side) {
        int other = 1 - side;
        StringBuilder rows = new StringBuilder("shape 60 1000 4000 = 1");
        for (int s = side; s < 8; s += 2) {
            rows.append("; write ").append(s).append(" 1000 = 1000");
        }
        int told = 0;
        int next = 0;
        for (int many : new int[] {10, 20, 22}) {
            rows.append("; send ").append(side).append(" x").append(many).append(" = ");
            rows.append(Rows.numbers(next, next + many - 1)).append("; come 0 x").append(many).append(" = 1; send ");
            rows.append(other).append(" = ").append(told++).append("; come 0 = 1");
            next += many;
        }
        while (next < 300) {
            int many = Math.min(25, 300 - next);
            rows.append("; send ").append(side).append(" x").append(many).append(" = ");
            rows.append(Rows.numbers(next, next + many - 1));
            next += many;
            if (next < 300) {
                // Of all under way the last is the one sent last: that alone comes.
                rows.append("; come ").append(next - 1 - 52 - (told - 3)).append(" = 1; send ").append(other);
                rows.append(" = ").append(told++).append("; come ").append(next - 52 - (told - 3)).append(" = 1");
            }
        }
        rows.append("; side # 0 = 300; packet # 299 0 = 0; packet # 300 0 = -1; send # = -4; send # = -4; "
            + "told 1 = 239");
        rows.append("; net 238 1 = 299; net 239 1 = -1; come 238 = 1; side % 11 = 299; send # = -4; "
            + "send % = ").append(told);
        rows.append("; part % ").append(told).append(" 0 5 = 299; come 238 = 1; side # 10 = 299; send # = -4");
        Rows.run("8 300 PACKETS of SIDE " + side, rows.toString().replace("#", "" + side).replace("%", "" + other));
    }

    private static void netFull() {
        String one = "write 0 5 = 5; send 0 = 0; ";
        Rows.run("2 400 at most: DOUBLED at 399, not at 400", one + "twice 0 x398 = " + Rows.numbers(2, 399),
            "told 1 = 399; twice 398 = 400; told 1 = 400; twice 399 = -4; twice 0 = -4; net 399 1 = 0; drop 399 = 399",
            "twice 0 = 400; twice 0 = -4");
        Rows.run("2 400 at most: sent at 399, not at 400", one + "twice 0 x398 = " + Rows.numbers(2, 399),
            "write 0 5 = 10; send 0 = 1; told 1 = 400; net 399 1 = 1; write 0 5 = 15; send 0 = -4; write 1 5 = 5",
            "send 1 = -4; twice 399 = -4; twice 0 = -4; stream 0 3 = 10; come 0 = 1; told 1 = 399; send 1 = 0",
            "send 0 = -4; come 0 = 0; send 0 = 2; part 0 2 0 2 = 10");
    }

    private static void comes() {
        Rows.run("2 a number that came is nothing, HEAVY: TOLD is OWED",
            "write 0 5 = 5; send 0 = 0; twice 0 = 2; come 0 = 1; send 1 = 0; side 1 12 = 0; drop 1 = 1; come 0 = 0",
            "side 1 12 = 1; stream 0 8 = 5; side 1 11 = 0; packet 0 0 7 = 1; send 1 = 1; packet 1 1 3 = 1");
        Rows.run("2 a number that came, not HEAVY: nothing is OWED",
            "write 0 5 = 5; send 0 = 0; come 0 = 1; send 1 = 0; packet 1 0 4 = 0; twice 0 = 2; come 0 = 1",
            "side 0 12 = 0; come 0 = 0; side 0 12 = 0; send 0 = -5");
        Rows.run("2 what came a second time does not count again",
            "cut 0 = 1; write 2 5 = 5; end 2 = 1; send 0 = 0; twice 0 = 2; come 0 = 1; stream 2 8 = 5; come 0 = 0",
            "stream 2 8 = 5; stream 2 9 = 5; stream 2 13 = 5; stream 0 14 = 1; told 1 = 0; told 7 = 0");
        Rows.run("2 TOLD that comes a second time measures nothing",
            "write 0 5 = 5; send 0 = 0; come 0 = 1; send 1 = 0; twice 0 = 2; come 0 = 1; side 0 5 = 0; side 0 2 = 2023",
            "tick 5 = 5; come 0 = 0; side 0 5 = 0; side 0 2 = 2023");
        Rows.run("2 DOUBLED behind all others", "write 0 5 = 5; send 0 = 0; write 0 5 = 10; send 0 = 1; write 0 5 = 15",
            "send 0 = 2; twice 1 = 4; net 0 1 = 0; net 1 1 = 1; net 2 1 = 2; net 3 1 = 1; drop 1 = 3; net 1 1 = 2",
            "net 2 1 = 1; come 2 = 1; packet 0 1 7 = 1; packet 0 0 7 = 0; told 1 = 2");
        Rows.run("10 DROPPED: the others keep their order", "write 0 5 = 5; send 0 = 0; write 0 5 = 10; send 0 = 1",
            "write 0 5 = 15; send 0 = 2; drop 2 = 2; net 0 1 = 0; net 1 1 = 1; drop 0 = 1; net 0 1 = 1; drop 0 = 0",
            "drop 0 = -1; come 0 = -1; twice 0 = -1; packet 0 2 7 = 0; side 0 1 = 69");
    }
}
