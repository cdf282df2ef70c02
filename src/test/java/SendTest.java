import java.util.Arrays;

/** Promises 8 to 11: send, come, drop, twice, what goes into a PACKET, and what END says of the length (13). */
public final class SendTest {
    private SendTest() {
    }

    public static void main(String[] args) {
        refused();
        fullNet();
        parts();
        turns();
        bounds();
        ends();
        endSaid();
        openAndShut();
        comes();
        dropsAndDoubles();
        Rows.close();
    }

    private static void refused() {
        Rows.run("8 refused",
            "send 2 = -1; send -1 = -1; send 0 = -5; send 1 = -5; told 1 = 0; side 0 0 = 0; write 0 5 = 5",
            "send 1 = -5; send 0 = 0; send 0 = -5; side 0 0 = 1; told 1 = 1");
    }

    private static void fullNet() {
        Rows.run("8 and 11: 400 under way", "write 0 5 = 5; send 0 = 0; twice 0 x398 = " + Rows.numbers(2, 399),
            "write 0 5 = 10; send 0 = 1; told 1 = 400; twice 0 = -4; twice 399 = -4; twice 400 = -1",
            "send 0 = -4; send 1 = -4; send 2 = -1; write 0 5 = 15",
            "send 0 = -4; drop 0 = 399; send 0 = 2; told 1 = 400; net 399 1 = 2");
    }

    private static void parts() {
        Rows.run("8 the parts in order",
            "shape 1000 100 100 = 1; write 1 100 = 100; send 1 = 0; come 0 = 1; read 1 50 = 50; write 0 10 = 10",
            "write 4 1 = 1; end 4 = 1; write 2 20 = 20; cut 6 = 1; cut 2 = 1; send 0 = 0; packet 0 0 3 = 7",
            "packet 0 0 2 = 67; packet 0 0 4 = 1; part 0 0 0 0 = 1; part 0 0 0 3 = 1; part 0 0 0 4 = 0",
            "part 0 0 0 5 = 0; part 0 0 0 6 = -6; part 0 0 1 0 = 2; part 0 0 1 1 = 1; part 0 0 1 2 = 150",
            "part 0 0 2 0 = 3; part 0 0 2 2 = 150; part 0 0 3 0 = 5; part 0 0 3 1 = 2; part 0 0 4 0 = 5",
            "part 0 0 4 1 = 6; part 0 0 5 0 = 4; part 0 0 5 1 = 0; part 0 0 5 2 = 0; part 0 0 5 3 = 10",
            "part 0 0 6 0 = 4; part 0 0 6 1 = 4; part 0 0 6 2 = 0; part 0 0 6 3 = 10001; send 0 = -5");
        Rows.run("8 BOUNDS by numbers",
            "shape 1000 100 4000 = 1; write 5 60 = 60; write 1 60 = 60; write 7 60 = 60; send 1 = 0; come 0 = 1",
            "read 7 60 = 60; read 1 55 = 55; read 5 50 = 50; send 0 = 0; packet 0 0 3 = 4; part 0 0 1 1 = 1",
            "part 0 0 1 2 = 155; part 0 0 2 1 = 5; part 0 0 2 2 = 150; part 0 0 3 1 = 7; part 0 0 3 2 = 160");
        Rows.run("8 room for each part",
            "shape 60 1000 4000 = 1; write 0 5 = 5; write 2 5 = 5; write 4 5 = 5; write 6 5 = 5; send 0 = 0",
            "packet 0 0 2 = 60; packet 0 0 3 = 4; part 0 0 3 1 = 6; part 0 0 3 3 = 3; send 0 = 1; packet 0 1 2 = 20",
            "packet 0 1 3 = 1; part 0 1 0 1 = 6; part 0 1 0 2 = 3; part 0 1 0 3 = 2");
        Rows.run("8 END alone where a byte has no room",
            "shape 60 1000 4000 = 1; write 0 34 = 34; write 2 5 = 5; end 4 = 1; send 0 = 0; packet 0 0 2 = 60",
            "packet 0 0 3 = 2; part 0 0 1 1 = 4; part 0 0 1 3 = 10000; send 0 = 1; packet 0 1 3 = 1",
            "part 0 1 0 1 = 2; part 0 1 0 3 = 5");
        Rows.run("8 one byte where there is room for one",
            "shape 60 1000 4000 = 1; write 0 33 = 33; write 2 5 = 5; send 0 = 0; packet 0 0 3 = 2; part 0 0 1 1 = 2",
            "part 0 0 1 3 = 1; packet 0 0 2 = 60; stream 2 3 = 1");
        Rows.run("8 no room for END either",
            "shape 60 1000 4000 = 1; write 0 35 = 35; end 2 = 1; send 0 = 0; packet 0 0 2 = 53; packet 0 0 3 = 1",
            "send 0 = 1; part 0 1 0 1 = 2; part 0 1 0 3 = 10000");
        Rows.run("8 CUT OFF waits where there is no room",
            "shape 60 50 200 = 1; write 1 25 = 25; write 3 25 = 25; write 5 25 = 25; write 7 25 = 25",
            "send 1 x3 = 0 1 2; come 0 x3 = 1; read 1 25 = 25; read 3 25 = 25; read 5 25 = 25; read 7 25 = 25",
            "cut 4 = 1; cut 2 = 1; cut 0 = 1; write 6 9 = 9; send 0 = 0; packet 0 0 3 = 8; packet 0 0 2 = 55",
            "part 0 0 4 1 = 7; part 0 0 5 0 = 3; part 0 0 5 2 = 300; part 0 0 6 1 = 0; part 0 0 7 1 = 2; send 0 = 1",
            "packet 0 1 3 = 2; part 0 1 0 0 = 5; part 0 1 0 1 = 4; part 0 1 1 1 = 6; part 0 1 1 3 = 9",
            "packet 0 1 2 = 34; send 0 = -5");
    }

    private static void turns() {
        Rows.run("8 the STREAM behind the last",
            "shape 60 1000 4000 = 1; write 0 100 = 100; write 2 100 = 100; write 4 100 = 100; write 6 100 = 100",
            "send 0 x5 = 0 1 2 3 4; part 0 0 0 1 = 0; part 0 1 0 1 = 2; part 0 2 0 1 = 4; part 0 3 0 1 = 6",
            "part 0 4 0 1 = 0; part 0 4 0 2 = 42; packet 0 4 3 = 1");
        Rows.run("8 turns of SIDE 1",
            "shape 60 1000 4000 = 1; write 5 40 = 40; write 7 60 = 60; write 1 50 = 50; send 1 x4 = 0 1 2 3",
            "part 1 0 0 1 = 1; part 1 1 0 1 = 5; part 1 2 0 1 = 7; part 1 3 0 1 = 1; part 1 3 0 3 = 8",
            "part 1 3 1 1 = 7; part 1 3 1 2 = 42; part 1 3 1 3 = 18");
        Rows.run("8 one part each",
            "write 0 1 = 1; send 0 = 0; write 0 1 = 2; send 0 = 1; write 0 1 = 3; send 0 = 2; write 6 1 = 1",
            "send 0 = 3; write 6 1 = 2; send 0 = 4; write 6 1 = 3; send 0 = 5; come 1 = 1; come 4 = 1; send 1 = 0",
            "come 4 = 1; packet 0 0 6 = 1; packet 0 2 6 = 1; packet 0 3 6 = 0; stream 0 5 = 2; send 0 = 6",
            "packet 0 6 3 = 1; part 0 6 0 2 = 0; part 0 6 0 3 = 1; stream 0 5 = 1; send 0 = 7; part 0 7 0 2 = 2",
            "part 0 7 0 3 = 1; stream 0 5 = 0; send 0 = -5");
        Rows.run("8 up to the last byte there can be",
            "shape 1000 1000 4000 = 1; write 0 1000 = 1000; end 0 = 1; send 0 x2 = 0 1; part 0 0 0 3 = 982",
            "part 0 1 0 3 = 10018; state 0 999 = 1; write 2 1 = 1; send 0 = 2; write 2 1 = 2; send 0 = 3",
            "write 2 1 = 3; send 0 = 4; twice 0 = 6; twice 1 = 7; come 4 = 1; send 1 = 0; come 6 = 1; packet 0 0 6 = 1",
            "packet 0 1 6 = 1; stream 0 5 = 1000; state 0 999 = 2; send 0 = 5; part 0 5 0 2 = 0; part 0 5 0 3 = 10982",
            "send 0 = 6; part 0 6 0 2 = 982; part 0 6 0 3 = 18; stream 0 5 = 0; come 0 x6 = 1 1 1 1 0 0",
            "stream 0 9 = 1000; stream 0 8 = 1000; read 0 1000 = 1000; stream 0 12 = 1; come 0 x2 = 1; send 1 = 1",
            "part 1 1 1 2 = 2000; come 0 = 1; stream 0 6 = 2000; stream 0 4 = 1000; stream 0 13 = 982; state 0 999 = 7",
            "state 0 0 = 7");
        Rows.run("8 a PACKET without BYTES leaves the turn",
            "shape 60 1000 4000 = 1; write 2 42 = 42; send 0 = 0; cut 0 = 1; send 0 = 1; write 2 42 = 84",
            "write 4 42 = 42; send 0 = 2; part 0 2 0 1 = 4; send 0 = 3; part 0 3 0 1 = 2");
    }

    private static void bounds() {
        Rows.run("8 BOUND and BOUND OF ALL",
            "shape 200 100 150 = 1; write 0 120 = 120; write 2 120 = 120; send 0 = 0; part 0 0 0 3 = 100",
            "part 0 0 1 1 = 2; part 0 0 1 3 = 50; packet 0 0 2 = 176; side 0 14 = 150; send 0 = -5; side 1 14 = 0",
            "write 1 80 = 80; send 1 = 0; side 1 14 = 80");
        Rows.run("8 bytes sent AGAIN do not count anew",
            "shape 60 50 50 = 1; write 0 50 = 50; send 0 x2 = 0 1; cut 2 = 1; send 0 = 2; cut 4 = 1; send 0 = 3",
            "cut 6 = 1; send 0 = 4; drop 0 = 4; come 0 = 1; come 2 = 1; send 1 = 0; come 2 = 1; packet 0 0 6 = 1",
            "stream 0 5 = 42; side 0 14 = 50; send 0 = 5; part 0 5 0 3 = 42; side 0 14 = 50; stream 0 5 = 0");
    }

    private static void ends() {
        Rows.run("8 END goes with the last bytes",
            "shape 60 1000 4000 = 1; write 0 84 = 84; end 0 = 1; send 0 x2 = 0 1; part 0 0 0 3 = 42",
            "part 0 1 0 3 = 10042; send 0 = -5; come 1 = 1; stream 0 13 = 84; stream 0 9 = 0");
        Rows.run("8 END alone, from WRITTEN",
            "shape 60 1000 4000 = 1; write 0 42 = 42; send 0 = 0; end 0 = 1; send 0 = 1; part 0 1 0 0 = 4",
            "part 0 1 0 1 = 0; part 0 1 0 2 = 42; part 0 1 0 3 = 10000; packet 0 1 2 = 18; send 0 = -5; come 1 = 1",
            "stream 0 13 = 42; stream 0 8 = 0; stream 0 7 = 0; send 1 = 0; come 1 = 1; stream 0 7 = 1",
            "stream 0 4 = 0");
        Rows.run("8 no END while BOUNDS hold bytes back",
            "shape 200 50 4000 = 1; write 0 60 = 60; end 0 = 1; send 0 = 0; part 0 0 0 3 = 50; send 0 = -5",
            "come 0 = 1; read 0 50 = 50; send 1 = 0; come 0 = 1; send 0 = 1; part 0 1 0 0 = 1; part 0 1 1 2 = 50",
            "part 0 1 1 3 = 10010");
        Rows.run("13 END with bytes sent AGAIN says how far these go",
            "shape 60 1000 4000 = 1; write 0 100 = 100; end 0 = 1; send 0 x3 = 0 1 2; part 0 2 0 3 = 10016",
            "write 2 1 = 1; send 0 = 3; write 2 1 = 2; send 0 = 4; write 2 1 = 3; send 0 = 5; drop 0 = 5",
            "come 0 = 1; drop 0 = 3; drop 0 = 2; drop 0 = 1; come 0 = 1; send 1 = 0; come 0 = 1; packet 0 0 6 = 1",
            "packet 0 2 6 = 1; packet 0 3 6 = 0; stream 0 5 = 58; side 0 1 = 38; side 0 2 = 339; send 0 = 6",
            "part 0 6 0 2 = 0; part 0 6 0 3 = 10042; send 0 = 7; part 0 7 0 2 = 84; part 0 7 0 3 = 16; send 0 = -5",
            "stream 0 13 = -6; come 0 = 1; stream 0 13 = 42; stream 0 9 = 84; come 0 = 1; stream 0 9 = 100",
            "stream 0 13 = 42; stream 0 0 = 100; send 1 = 1; come 0 = 1; stream 0 7 = 1; stream 0 4 = 100",
            "stream 0 5 = 0");
    }

    private static void endSaid() {
        String[] endTwice = {
            "shape 60 1000 4000 = 1; write 0 100 = 100; end 0 = 1; send 0 x3 = 0 1 2; part 0 2 0 3 = 10016",
            "write 2 1 = 1; send 0 = 3; write 2 1 = 2; send 0 = 4; write 2 1 = 3; send 0 = 5; drop 0 = 5; come 0 = 1",
            "drop 1 = 3; drop 1 = 2; come 1 = 1; send 1 = 0; come 1 = 1; packet 0 2 6 = 1; send 0 = 6",
            "part 0 6 0 2 = 0; part 0 6 0 3 = 10042; net 0 1 = 2; net 1 1 = 6; stream 0 13 = -6"};
        Rows.run("13 the END that came last says it: the first one late", with(endTwice,
            "twice 1 = 3; come 1 = 1; stream 0 13 = 42; come 0 = 1; stream 0 13 = 100; stream 0 9 = 100",
            "come 0 = 0; stream 0 13 = 100"));
        Rows.run("13 the END that came last says it: in order", with(endTwice,
            "twice 0 = 3; come 0 = 1; stream 0 13 = 100; come 0 = 1; stream 0 13 = 42; stream 0 9 = 100",
            "come 0 = 0; stream 0 13 = 42"));
    }

    static String[] with(String[] rows, String... more) {
        String[] all = Arrays.copyOf(rows, rows.length + more.length);
        System.arraycopy(more, 0, all, rows.length, more.length);
        return all;
    }

    private static void openAndShut() {
        Rows.run("8 FLIGHT and ROOM against OPEN", "shape 60 1000 4000 = 1; write 0 1000 = 1000",
            "send 0 x9 = " + Rows.numbers(0, 8), "side 0 1 = 540; send 0 = 9; side 0 1 = 600; send 0 = -5",
            "write 1 5 = 5; send 1 = 0; come 10 = 1; cut 2 = 1; send 0 = 10; packet 0 10 3 = 1; part 0 10 0 0 = 1",
            "packet 0 10 4 = 0; side 0 1 = 600; send 0 = -5; tick 7 = 7; send 0 = -5; tick 1 = 8; side 0 9 = 1",
            "send 0 = 11; packet 0 11 3 = 2; part 0 11 0 0 = 5; part 0 11 1 0 = 4; side 0 9 = 0; side 0 1 = 660",
            "send 0 = -5");
        Rows.run("8 one below is shut", "shape 60 1000 4000 = 1; write 0 379 = 379; send 0 x9 = " + Rows.numbers(0, 8),
            "send 0 = 9; packet 0 9 2 = 19; side 0 1 = 559; write 0 1 = 380; send 0 = -5");
    }

    private static void comes() {
        Rows.run("9 refused",
            "come 0 = -1; come -1 = -1; write 0 5 = 5; send 0 = 0; come 1 = -1; come -1 = -1; told 1 = 1");
        Rows.run("9 what came before is nothing",
            "write 0 5 = 5; send 0 = 0; twice 0 = 2; come 0 = 1; packet 0 0 7 = 1; side 1 12 = 1; side 1 11 = 0",
            "send 1 = 0; side 1 12 = 0; come 0 = 0; side 1 12 = 1; stream 0 8 = 5; twice 0 = 2; come 0 = 1",
            "come 0 = 0; side 0 12 = 0; packet 1 0 7 = 1; side 0 11 = 0; told 1 = 0; write 1 5 = 5; send 1 = 1",
            "come 0 = 1; side 0 12 = 1; send 0 = 1; part 0 1 0 3 = 1; part 0 1 0 4 = 0; part 0 1 0 5 = 1",
            "packet 0 1 4 = 0; side 0 12 = 0");
        Rows.run("9 the highest that came",
            "shape 60 1000 4000 = 1; write 0 200 = 200; send 0 x3 = 0 1 2; come 2 = 1; side 1 11 = 2; come 0 = 1",
            "side 1 11 = 2; side 0 11 = -6");
        Rows.run("9 spans: four, the highest first", "shape 60 1000 4000 = 1; write 0 1000 = 1000",
            "send 0 x10 = " + Rows.numbers(0, 9), "come 0 = 1; drop 0 = 8; come 0 = 1; drop 0 = 6; come 0 = 1",
            "drop 0 = 4; come 0 = 1; drop 0 = 2; come 0 = 1; send 1 = 0; packet 1 0 2 = 28; packet 1 0 3 = 1",
            "part 1 0 0 3 = 4; part 1 0 0 4 = 8; part 1 0 0 5 = 8; part 1 0 0 6 = 6; part 1 0 0 7 = 6",
            "part 1 0 0 8 = 4; part 1 0 0 9 = 4; part 1 0 0 10 = 2; part 1 0 0 11 = 2; part 1 0 0 12 = -2",
            "part 1 0 0 -1 = -2; come 1 = 1; packet 0 0 5 = 0; packet 0 0 6 = 1; packet 0 0 7 = 1; packet 0 2 5 = 1",
            "packet 0 5 6 = 1; packet 0 7 6 = 0; side 0 1 = 120; side 0 2 = 420; side 0 3 = 420; side 0 10 = 8",
            "stream 0 5 = 168; stream 0 4 = 168; send 0 = 10; part 0 10 0 2 = 0; part 0 10 0 3 = 42; stream 0 5 = 126");
    }

    private static void dropsAndDoubles() {
        Rows.run("10",
            "drop 0 = -1; shape 60 1000 4000 = 1; write 0 200 = 200; send 0 x3 = 0 1 2; drop 3 = -1; drop -1 = -1",
            "drop 1 = 2; net 0 1 = 0; net 1 1 = 2; drop 1 = 1; drop 0 = 0; drop 0 = -1; side 0 1 = 180",
            "packet 0 1 7 = 0");
        Rows.run("11",
            "twice 0 = -1; shape 60 1000 4000 = 1; write 0 200 = 200; send 0 x2 = 0 1; write 1 5 = 5; send 1 = 0",
            "twice 0 = 4; net 3 0 = 0; net 3 1 = 0; twice 2 = 5; net 4 0 = 1; net 4 1 = 0; twice 5 = -1",
            "twice -1 = -1; side 0 0 = 2; drop 0 = 4; net 2 1 = 0; net 2 0 = 0; come 2 = 1; stream 0 8 = 42");
    }
}
