/** The edges that the document names of what is told (promises 13 to 19): each value where it turns to the next. */
public final class ToldEdgesTest {
    private ToldEdgesTest() {
    }

    public static void main(String[] args) {
        sender();
        receiver();
        state();
        side();
        packet();
        part();
        net();
        told();
        Rows.close();
    }

    private static void sender() {
        Rows.run("13 0 WRITTEN: with what is not sent", "stream 0 0 = 0; write 0 1 = 1; stream 0 0 = 1",
            "write 0 999 = 1000; stream 0 0 = 1000; stream 0 3 = 0; send 0 = 0; stream 0 0 = 1000");
        Rows.run("13 1 ENDED, 2 CUT OFF: as told to it, not as it is sent", "stream 0 1 = 0; end 0 = 1; stream 0 1 = 1",
            "stream 0 2 = 0; cut 0 = 1; stream 0 1 = 1; stream 0 2 = 1; stream 2 1 = 0; stream 2 2 = 0; cut 2 = 1",
            "stream 2 1 = 0; send 0 = 0; stream 2 2 = 1");
        Rows.run("13 3 the first byte never sent: sent AGAIN or not", "shape 60 1000 4000 = 1; stream 0 3 = 0",
            "write 0 168 = 168; stream 0 3 = 0; send 0 = 0; stream 0 3 = 42; send 0 x3 = 1 2 3; stream 0 3 = 168",
            "come 3 = 1; send 1 = 0; come 3 = 1; stream 0 5 = 42; stream 0 3 = 168; send 0 = 4; stream 0 3 = 168",
            "stream 0 5 = 0");
        Rows.run("13 4 have arrived: when TOLD of, not when they CAME", "write 0 5 = 5; send 0 = 0; come 0 = 1",
            "stream 0 4 = 0; send 1 = 0; stream 0 4 = 0; come 0 = 1; stream 0 4 = 5; stream 0 8 = 5");
        Rows.run("13 6 BOUND as it knows it, 11 as told last, 12 OWED", "shape 200 50 4000 = 1; write 0 50 = 50",
            "send 0 = 0; come 0 = 1; read 0 25 = 25; stream 0 6 = 50; stream 0 11 = 50; stream 0 12 = 1; send 1 = 0",
            "stream 0 6 = 50; stream 0 11 = 75; stream 0 12 = 0; come 0 = 1; stream 0 6 = 75; stream 0 11 = 75",
            "stream 0 12 = 0; stream 2 6 = 50; stream 2 11 = 50");
        Rows.run("13 7 END has arrived: when TOLD of", "end 0 = 1; stream 0 7 = 0; send 0 = 0; stream 0 7 = 0",
            "come 0 = 1; stream 0 7 = 0; send 1 = 0; stream 0 7 = 0; come 0 = 1; stream 0 7 = 1");
        Rows.run("13 7 END that was never sent has not arrived", "write 0 5 = 5; send 0 = 0; come 0 = 1; send 1 = 0",
            "come 0 = 1; stream 0 7 = 0; end 0 = 1; stream 0 7 = 0; send 0 = 1; stream 0 7 = 0");
    }

    private static void receiver() {
        Rows.run("13 8 CAME, 9 PREFIX, 10 READ", "shape 60 1000 4000 = 1; write 1 126 = 126; send 1 x3 = 0 1 2",
            "stream 1 8 = 0; stream 1 9 = 0; come 0 = 1; stream 1 8 = 42; stream 1 9 = 42; stream 1 10 = 0; come 1 = 1",
            "stream 1 8 = 84; stream 1 9 = 42; read 1 42 = 42; stream 1 10 = 42; come 0 = 1; stream 1 8 = 126",
            "stream 1 9 = 126; stream 1 10 = 42; read 1 84 = 84; stream 1 10 = 126");
        Rows.run("13 13 how long it is: NONE until END came, 0 where it is empty", "end 0 = 1; stream 0 13 = -6",
            "send 0 = 0; stream 0 13 = -6; come 0 = 1; stream 0 13 = 0; stream 2 13 = -6");
        Rows.run("13 13 without END it is NONE", "write 0 5 = 5; send 0 = 0; come 0 = 1; stream 0 13 = -6; end 0 = 1",
            "stream 0 13 = -6; send 0 = 1; come 0 = 1; stream 0 13 = 5");
        Rows.run("13 13 as END said, ahead of the bytes", "shape 60 1000 4000 = 1; write 0 43 = 43; end 0 = 1",
            "send 0 x2 = 0 1; come 1 = 1; stream 0 13 = 43; stream 0 9 = 0; stream 0 8 = 1");
        Rows.run("13 13 of the longest there can be", "shape 1000 1000 4000 = 1; write 0 1000 = 1000; end 0 = 1",
            "send 0 x2 = 0 1; come 1 = 1; stream 0 13 = 1000");
        Rows.run("13 14 CUT OFF came: when it comes", "cut 0 = 1; stream 0 14 = 0; send 0 = 0; stream 0 14 = 0",
            "come 0 = 1; stream 0 14 = 1; stream 2 14 = 0");
    }

    private static void state() {
        Rows.run("14 0, 1, 5, 7: never sent, sent, CAME, arrived", "write 0 2 = 2; state 0 0 = 0; state 0 1 = 0",
            "send 0 = 0; state 0 1 = 1; state 0 2 = 0; come 0 = 1; state 0 0 = 5; state 0 1 = 5; state 0 2 = 0",
            "send 1 = 0; state 0 1 = 5; come 0 = 1; state 0 0 = 7; state 0 1 = 7; state 0 2 = 0; state 0 999 = 0",
            "state 1 0 = 0");
        Rows.run("14 2, 6, 5: to be sent AGAIN, and CAME, and sent AGAIN", "shape 60 1000 4000 = 1; write 0 168 = 168",
            "send 0 x4 = 0 1 2 3; come 3 = 1; send 1 = 0; come 3 = 1; state 0 0 = 2; state 0 41 = 2; state 0 42 = 1",
            "come 0 = 1; state 0 0 = 6; state 0 41 = 6; state 0 42 = 1; send 0 = 4; state 0 0 = 5; state 0 41 = 5",
            "send 1 = 1; come 3 = 1; packet 0 0 5 = 1; state 0 0 = 7; state 0 41 = 7");
        Rows.run("14 the last byte there can be", "shape 1000 1000 4000 = 1; write 7 999 = 999; send 1 x2 = 0 1",
            "come 0 x2 = 1; state 7 998 = 5; state 7 999 = 0; write 7 1 = 1000; send 1 = 2; state 7 999 = 1",
            "come 0 = 1; state 7 999 = 5; state 7 1000 = -1");
    }

    private static void side() {
        Rows.run("15 0 PACKETS sent, 1 FLIGHT: HEAVY ones alone", "write 0 5 = 5; side 0 0 = 0; send 0 = 0",
            "side 0 0 = 1; side 0 1 = 23; come 0 = 1; side 0 1 = 23; send 1 = 0; side 1 0 = 1; side 1 1 = 0",
            "come 0 = 1; side 0 1 = 0; side 0 0 = 1");
        Rows.run("15 5 to 7 NONE, and 0 where LATEST is 0", "side 0 5 = -6; side 0 6 = -6; side 0 7 = -6",
            "write 0 5 = 5; send 0 = 0; come 0 = 1; send 1 = 0; side 0 5 = -6; come 0 = 1; side 0 5 = 0; side 0 6 = 0",
            "side 0 7 = 0; side 1 5 = -6");
        Rows.run("15 10 and 11 NONE, and 0 where PACKET 0 is the highest", "write 0 5 = 5; side 0 10 = -6",
            "side 1 11 = -6; send 0 = 0; side 1 11 = -6; come 0 = 1; side 1 11 = 0; side 0 10 = -6; send 1 = 0",
            "come 0 = 1; side 0 10 = 0; side 0 11 = 0; side 1 10 = -6");
        Rows.run("15 12 TOLD is OWED until it is sent", "write 0 5 = 5; send 0 = 0; side 1 12 = 0; come 0 = 1",
            "side 1 12 = 1; side 0 12 = 0; send 1 = 0; side 1 12 = 0");
        Rows.run("15 13 to 16: known, counted, OWED, told last", "shape 200 1000 50 = 1; write 0 50 = 50",
            "side 0 14 = 0; send 0 = 0; side 0 14 = 50; come 0 = 1; read 0 24 = 24; side 1 15 = 0; read 0 1 = 1",
            "side 1 15 = 1; side 1 16 = 50; side 0 13 = 50; send 1 = 0; side 1 15 = 0; side 1 16 = 75; side 0 13 = 50",
            "come 0 = 1; side 0 13 = 75; side 0 14 = 50; side 1 13 = 50; side 0 16 = 50");
    }

    private static void packet() {
        Rows.run("16 0 TIME when sent: 0, and later", "write 0 5 = 5; send 0 = 0; tick 1000 = 1000; write 0 5 = 10",
            "send 0 = 1; tick 1 = 1001; packet 0 0 0 = 0; packet 0 1 0 = 1000");
        Rows.run("16 3 how many parts, 4 HEAVY", "write 0 1 = 1; write 2 1 = 1; write 4 1 = 1; write 6 1 = 1",
            "send 0 = 0; packet 0 0 3 = 4; packet 0 0 4 = 1; come 0 = 1; send 1 = 0; packet 1 0 3 = 1",
            "packet 1 0 4 = 0; write 1 1 = 1; send 1 = 1; packet 1 1 4 = 1");
        Rows.run("16 5 TOLD of, 6 LOST, 7 came: each by itself", "shape 60 1000 4000 = 1; write 0 168 = 168",
            "send 0 x4 = 0 1 2 3; come 3 = 1; packet 0 3 7 = 1; packet 0 3 5 = 0; send 1 = 0; come 3 = 1",
            "packet 0 3 5 = 1; packet 0 3 6 = 0; packet 0 0 6 = 1; packet 0 0 5 = 0; packet 0 0 7 = 0; come 0 = 1",
            "packet 0 0 7 = 1; packet 0 0 6 = 1; packet 0 0 5 = 0; send 1 = 1; come 2 = 1; packet 0 0 5 = 1",
            "packet 0 0 6 = 1");
        Rows.run("16 2 weight: as it was sent", "write 0 5 = 5; send 0 = 0; packet 0 0 2 = 23; come 0 = 1; send 1 = 0",
            "come 0 = 1; packet 0 0 2 = 23; packet 0 0 4 = 1");
    }

    private static void part() {
        Rows.run("17 spans that are not there are NONE, the last one there is not",
            "shape 60 1000 4000 = 1; write 0 378 = 378; send 0 x9 = " + Rows.numbers(0, 8), "come 0 = 1; come 1 = 1",
            "come 2 = 1; send 1 = 0; part 1 0 0 3 = 3; part 1 0 0 4 = 4; part 1 0 0 5 = 4; part 1 0 0 6 = 2",
            "part 1 0 0 7 = 2; part 1 0 0 8 = 0; part 1 0 0 9 = 0; part 1 0 0 10 = -6; part 1 0 0 11 = -6",
            "part 1 0 0 12 = -2; come 3 = 1; send 1 = 1; part 1 1 0 10 = 0; part 1 1 0 11 = 0");
        String[] kinds = {"cut 0 = 1; send 0 = 0", "write 0 5 = 5; send 0 = 0", "end 0 = 1; send 0 = 0"};
        for (String kind : kinds) {
            for (int what = 4; what <= 11; what++) {
                Rows.run("17 spans of what is not TOLD are NONE", kind, "part 0 0 0 " + what + " = -6");
            }
        }
        Rows.run("17 of PING, ASK, BOUND OF ALL and TOLD a is 0, of PING and TOLD b, too",
            "shape 1000 1000 50 = 1; move = 1; write 0 50 = 50; send 0 = 0; come 0 = 1; read 0 50 = 50; send 1 = -5",
            "send 0 = -5; tick 8 = 8; send 0 = 1; part 0 1 0 0 = 8; part 0 1 0 1 = 0; part 0 1 0 2 = 0",
            "part 0 1 0 3 = 0; told 5 = 68");
        Rows.run("17 a and b of BOUND OF ALL, a of ASK", "shape 100 1000 50 = 1; move = 1; write 2 50 = 50; send 0 = 0",
            "come 0 = 1; read 2 50 = 50; send 1 = 0; part 1 0 0 0 = 1; part 1 0 0 1 = 0; part 1 0 0 2 = 0",
            "part 1 0 0 3 = 1; part 1 0 1 0 = 6; part 1 0 1 1 = 0; part 1 0 1 2 = 1; part 1 0 1 3 = 0",
            "part 1 0 2 0 = 3; part 1 0 2 1 = 0; part 1 0 2 2 = 100; part 1 0 2 3 = 0; part 1 0 2 4 = -6");
    }

    private static void net() {
        Rows.run("18 the SIDE and the number of each", "write 1 1 = 1; send 1 = 0; write 1 1 = 2; send 1 = 1",
            "write 0 1 = 1; send 0 = 0; net 0 0 = 1; net 0 1 = 0; net 1 0 = 1; net 1 1 = 1; net 2 0 = 0; net 2 1 = 0",
            "drop 0 = 2; net 0 1 = 1; net 1 0 = 0; net 2 0 = -1; come 0 = 1; net 0 0 = 0; net 1 0 = -1; come 0 = 1",
            "net 0 0 = -1; net 0 1 = -1");
    }

    private static void told() {
        Rows.run("19 each of its own", "told 1 = 0; write 0 60 = 60; tick 3 = 3; move x2 = 1 2; send 0 = 0",
            "twice 0 = 2; told 0 = 3; told 1 = 2; told 2 = 2; told 3 = 0; told 4 = 0; come 0 = 1; told 1 = 1",
            "told 3 = 2; told 4 = 1; told 5 = 78; told 6 = 0; told 7 = 0; send 1 = 0; told 6 = 25; move = 3",
            "come 1 = 2; told 7 = 1; told 2 = 3; told 3 = 2; told 1 = 1");
        Rows.run("19 4 PATH 0 is not TRIED, nor one that is trusted", "told 3 = 0; told 4 = 0; move = 1; told 4 = 0",
            "write 0 60 = 60; send 0 = 0; told 4 = 0; come 0 = 1; told 4 = 1; send 1 = 0; come 0 = 1; told 4 = 1",
            "send 0 = 1; told 4 = 1; come 0 = 1; told 4 = 0; told 3 = 1");
    }
}
