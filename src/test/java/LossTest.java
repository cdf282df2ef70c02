/** Promise 12, and what is TOLD of, measured, LOST and probed for. */
public final class LossTest {
    private LossTest() {
    }

    public static void main(String[] args) {
        ticks();
        measures();
        window();
        lostByNumber();
        lostByTime();
        lostParts();
        lateTold();
        probes();
        Rows.close();
    }

    private static void ticks() {
        Rows.run("12",
            "tick 0 = -2; tick -1 = -2; tick 1001 = -2; told 0 = 0; tick 1 = 1; tick 1000 = 1001; told 0 = 1001",
            "tick 2147483647 = -2; side 0 9 = 0; side 1 9 = 0; side 0 8 = 0");
    }

    /** SIDE 0 sends a byte, SIDE 1 tells of it n ticks later. */
    private static String round(int packet, int ticks, int time) {
        return String.format("write 0 1 = %d; send 0 = %d; come 0 = 1; send 1 = %d; tick %d = %d; come 0 = 1",
            packet + 1, packet, packet, ticks, time);
    }

    private static void measures() {
        Rows.run("12 LATEST, SMOOTH, VARY",
            round(0, 3, 3),
            "side 0 5 = 3; side 0 6 = 24; side 0 7 = 12",
            round(1, 5, 8),
            "side 0 5 = 5; side 0 6 = 26; side 0 7 = 13",
            round(2, 2, 10),
            "side 0 5 = 2; side 0 6 = 24; side 0 7 = 12; side 1 5 = -6; side 1 6 = -6; side 1 7 = -6");
        Rows.run("12 LATEST may be 0",
            "write 0 1 = 1; send 0 = 0; come 0 = 1; send 1 = 0; come 0 = 1; side 0 5 = 0; side 0 6 = 0",
            "side 0 7 = 0; write 0 1 = 2; send 0 = 1; come 0 = 1; send 1 = 1; tick 1 = 1; come 0 = 1; side 0 5 = 1",
            "side 0 6 = 1; side 0 7 = 2");
        Rows.run("12 nothing measured where the highest is not so just now",
            "shape 60 1000 4000 = 1; write 0 84 = 84; send 0 x2 = 0 1; come 1 = 1; send 1 = 0; come 0 = 1",
            "send 1 = 1; tick 2 = 2; come 0 = 1; side 0 5 = 2; tick 2 = 4; come 0 = 1; packet 0 0 5 = 1",
            "packet 0 1 5 = 1; side 0 5 = 2; side 0 6 = 16");
    }

    private static void window() {
        Rows.run("12 OPEN grows by the weight below BRIM",
            "shape 60 1000 4000 = 1; write 0 100 = 100; send 0 x3 = 0 1 2; come 0 x3 = 1; send 1 = 0; come 0 = 1",
            "side 0 2 = 754; side 0 3 = 1000000; side 0 1 = 0; side 0 4 = -1");
        Rows.run("12 and by ROOM times the weight by OPEN else",
            "shape 60 1000 4000 = 1; write 0 260 = 260; send 0 x4 = 0 1 2 3; come 3 = 1; send 1 = 0; come 3 = 1",
            "side 0 2 = 330; side 0 3 = 330; side 0 4 = 0; drop 2 = 2; drop 1 = 1; drop 0 = 0; side 0 1 = 120",
            "stream 0 5 = 42; tick 1 = 1; packet 0 1 6 = 1; packet 0 2 6 = 1; side 0 2 = 330; side 0 4 = 0",
            "side 0 1 = 0; stream 0 5 = 126; send 0 x2 = 4 5; come 0 x2 = 1; send 1 = 1; come 0 = 1; side 0 2 = 350",
            "packet 0 4 2 = 60; packet 0 5 2 = 60");
        Rows.run("12 what was sent no later than FALL does not count",
            "shape 60 1000 4000 = 1; write 0 260 = 260; send 0 x4 = 0 1 2 3; come 3 = 1; send 1 = 0; come 3 = 1",
            "side 0 2 = 330; come 1 = 1; send 1 = 1; come 2 = 1; packet 0 1 5 = 1; packet 0 1 6 = 0; side 0 2 = 330",
            "side 0 1 = 60; send 0 x2 = 4 5; come 3 = 1; send 1 = 2; come 3 = 1; packet 0 2 6 = 1; side 0 4 = 0",
            "side 0 2 = 330");
        Rows.run("12 OPEN is 2 ROOM at least",
            "shape 60 1000 4000 = 1; write 0 1000 = 1000; send 0 x4 = 0 1 2 3; come 3 = 1; send 1 = 0; come 3 = 1",
            "side 0 2 = 330; tick 1 = 1; side 0 2 = 330; drop 0 = 2; drop 0 = 1; drop 0 = 0; send 0 x4 = 4 5 6 7",
            "come 3 = 1; send 1 = 1; come 3 = 1; packet 0 4 6 = 1; side 0 4 = 1; side 0 2 = 170; side 0 3 = 170",
            "tick 1 = 2; drop 0 = 2; drop 0 = 1; drop 0 = 0; side 0 1 = 0; send 0 x2 = 8 9; send 0 = -5",
            "side 0 1 = 120; tick 3 = 5; side 0 9 = 1; send 0 = 10; tick 6 = 11; send 0 = 11; come 3 = 1",
            "send 1 = 2; come 3 = 1; side 0 4 = 11; side 0 2 = 120; side 0 3 = 120");
    }

    private static void lostByNumber() {
        Rows.run("12 LOST 3 or more below",
            "shape 60 1000 4000 = 1; write 0 300 = 300; send 0 x5 = 0 1 2 3 4; come 3 = 1; send 1 = 0; come 4 = 1",
            "packet 0 0 6 = 1; packet 0 1 6 = 0; packet 0 2 6 = 0; packet 0 4 6 = 0; side 0 1 = 180; side 0 10 = 3",
            "stream 0 5 = 42; state 0 41 = 2; state 0 42 = 1; state 0 126 = 7; state 0 168 = 1; state 0 210 = 0");
        Rows.run("12 none above or at the highest TOLD of",
            "shape 60 1000 4000 = 1; write 0 84 = 84; send 0 x2 = 0 1; come 0 = 1; send 1 = 0; come 1 = 1",
            "side 0 10 = 0; tick 100 = 100; packet 0 1 6 = 0; packet 0 0 6 = 0");
        Rows.run("12 a PACKET that is not HEAVY is never LOST",
            "shape 60 1000 4000 = 1; write 1 5 = 5; send 1 = 0; come 0 = 1; send 0 = 0; drop 0 = 0",
            "write 0 126 = 126; send 0 x3 = 1 2 3; come 2 = 1; send 1 = 1; come 2 = 1; packet 0 0 6 = 0",
            "packet 0 1 6 = 0; tick 9 = 9; packet 0 0 6 = 0; packet 0 1 6 = 1");
    }

    private static void lostByTime() {
        Rows.run("12 LIMIT of a long LATEST",
            "shape 60 1000 4000 = 1; write 0 84 = 84; send 0 x2 = 0 1; tick 10 = 10; come 1 = 1; send 1 = 0",
            "come 1 = 1; side 0 5 = 10; packet 0 0 6 = 0; side 0 1 = 60; tick 1 = 11; packet 0 0 6 = 1",
            "side 0 1 = 0; side 0 4 = 11; side 0 2 = 330; stream 0 5 = 42");
        Rows.run("12 looked for as soon as TOLD comes",
            "shape 60 1000 4000 = 1; write 0 84 = 84; send 0 x2 = 0 1; tick 3 = 3; come 1 = 1; send 1 = 0",
            "come 1 = 1; side 0 5 = 3; packet 0 0 6 = 1; side 0 4 = 3");
        Rows.run("12 LIMIT is 1 at least",
            "shape 60 1000 4000 = 1; write 0 84 = 84; send 0 x2 = 0 1; come 1 = 1; send 1 = 0; come 1 = 1",
            "side 0 5 = 0; packet 0 0 6 = 0; tick 1 = 1; packet 0 0 6 = 1");
        Rows.run("12 LIMIT of LATEST 8 is 9",
            "shape 60 1000 4000 = 1; write 0 84 = 84; send 0 x2 = 0 1; tick 8 = 8; come 1 = 1; send 1 = 0",
            "come 1 = 1; packet 0 0 6 = 0; tick 1 = 9; packet 0 0 6 = 1");
        Rows.run("12 LIMIT where LATEST is above SMOOTH",
            "shape 60 1000 4000 = 1; write 0 42 = 42; send 0 = 0; come 0 = 1; send 1 = 0; come 0 = 1",
            "write 0 84 = 126; send 0 x2 = 1 2; tick 16 = 16; come 1 = 1; send 1 = 1; come 1 = 1; side 0 5 = 16",
            "side 0 6 = 16; side 0 7 = 32; packet 0 1 6 = 0; tick 1 = 17; packet 0 1 6 = 0; tick 1 = 18",
            "packet 0 1 6 = 1");
        Rows.run("12 LIMIT is of the greater of SMOOTH and 8 LATEST",
            "shape 60 1000 4000 = 1; write 0 42 = 42; send 0 = 0; come 0 = 1; send 1 = 0; tick 20 = 20; come 0 = 1",
            "side 0 6 = 160; side 0 9 = 1; write 0 84 = 126; send 0 x2 = 1 2; come 1 = 1; send 1 = 1; come 1 = 1",
            "side 0 5 = 0; side 0 6 = 140; tick 18 = 38; packet 0 1 6 = 0; tick 1 = 39; packet 0 1 6 = 1");
        Rows.run("12 LIMIT is 8 without LATEST",
            "shape 60 1000 4000 = 1; write 0 84 = 84; send 0 x2 = 0 1; write 1 5 = 5; send 1 = 0; come 2 = 1",
            "send 0 = 2; packet 0 2 4 = 0; come 1 = 1; come 1 = 1; send 1 = 1; come 1 = 1; side 0 10 = 2",
            "side 0 5 = -6; packet 0 1 5 = 1; packet 0 2 5 = 1; tick 7 = 7; packet 0 0 6 = 0; side 0 1 = 60",
            "tick 1 = 8; packet 0 0 6 = 1; side 0 1 = 0; side 0 9 = 0; side 0 8 = 0");
    }

    private static void lostParts() {
        Rows.run("12 BOUNDS are OWED as they are then",
            "shape 200 100 100 = 1; write 0 100 = 100; send 0 = 0; come 0 = 1; read 0 50 = 50; send 1 = 0",
            "packet 1 0 3 = 3; drop 0 = 0; read 0 10 = 10; stream 0 12 = 0; side 1 15 = 0; write 1 5 = 5",
            "send 1 = 1; drop 0 = 0; write 1 5 = 10; send 1 = 2; drop 0 = 0; write 1 5 = 15; send 1 = 3; come 0 = 1",
            "send 0 = 1; come 0 = 1; packet 1 0 6 = 1; packet 1 1 6 = 0; stream 0 12 = 1; stream 0 11 = 150",
            "side 1 15 = 1; side 1 16 = 150; send 1 = 4; packet 1 4 3 = 2; part 1 4 0 0 = 2; part 1 4 0 1 = 0",
            "part 1 4 0 2 = 160; part 1 4 1 0 = 3; part 1 4 1 2 = 160; stream 0 11 = 160; side 1 16 = 160");
        Rows.run("12 CUT OFF and END",
            "cut 0 = 1; end 2 = 1; send 0 = 0; drop 0 = 0; write 4 1 = 1; send 0 = 1; write 4 1 = 2; send 0 = 2",
            "write 4 1 = 3; send 0 = 3; come 2 = 1; send 1 = 0; come 2 = 1; packet 0 0 6 = 1; stream 2 7 = 0",
            "send 0 = 4; packet 0 4 3 = 2; part 0 4 0 0 = 5; part 0 4 0 1 = 0; part 0 4 1 1 = 2",
            "part 0 4 1 3 = 10000; send 0 = -5");
        Rows.run("12 END that is under way is not sent AGAIN",
            "shape 60 1000 4000 = 1; write 0 84 = 84; end 0 = 1; send 0 x2 = 0 1; part 0 1 0 3 = 10042",
            "write 2 1 = 1; send 0 = 2; write 2 1 = 2; send 0 = 3; come 3 = 1; send 1 = 0; come 3 = 1",
            "packet 0 0 6 = 1; packet 0 1 6 = 0; send 0 = 4; part 0 4 0 2 = 0; part 0 4 0 3 = 42");
        Rows.run("12 AGAIN goes ahead of bytes never sent, a run at a time",
            "shape 60 1000 4000 = 1; write 0 300 = 300; send 0 x7 = 0 1 2 3 4 5 6; come 1 = 1; come 5 = 1",
            "send 1 = 0; come 5 = 1; stream 0 5 = 126; side 0 1 = 120; state 0 0 = 2; state 0 42 = 7",
            "state 0 84 = 2; state 0 167 = 2; state 0 168 = 1; send 0 x3 = 7 8 9; part 0 7 0 2 = 0",
            "part 0 7 0 3 = 42; part 0 8 0 2 = 84; part 0 8 0 3 = 42; part 0 9 0 2 = 126; part 0 9 0 3 = 42",
            "stream 0 5 = 0; stream 0 3 = 294");
        Rows.run("12 what is CUT OFF is to be sent AGAIN, but is not sent",
            "shape 60 1000 4000 = 1; write 0 168 = 168; send 0 x4 = 0 1 2 3; cut 0 = 1; come 3 = 1; send 1 = 0",
            "come 3 = 1; stream 0 5 = 42; send 0 = 4; packet 0 4 3 = 1; part 0 4 0 0 = 5; stream 0 5 = 42",
            "send 0 = -5");
    }

    private static void lateTold() {
        Rows.run("12 a LOST one that is TOLD of",
            "shape 60 1000 4000 = 1; write 0 200 = 200; send 0 x4 = 0 1 2 3; come 3 = 1; send 1 = 0; come 3 = 1",
            "stream 0 5 = 42; side 0 1 = 120; side 0 2 = 330; come 0 = 1; send 1 = 1; part 1 1 0 6 = 0",
            "part 1 1 0 7 = 0; come 2 = 1; packet 0 0 5 = 1; packet 0 0 6 = 1; stream 0 5 = 0; stream 0 4 = 84",
            "state 0 0 = 7; side 0 2 = 330; side 0 1 = 120; side 0 5 = 0; send 0 = 4; part 0 4 0 2 = 168");
        Rows.run("12 bytes that arrived stay so",
            "shape 60 1000 4000 = 1; write 0 126 = 126; send 0 x3 = 0 1 2; write 2 42 = 42; send 0 = 3; come 3 = 1",
            "send 1 = 0; come 3 = 1; packet 0 0 6 = 1; send 0 = 4; part 0 4 0 1 = 0; part 0 4 0 2 = 0; drop 3 = 3",
            "come 0 = 1; send 1 = 1; come 2 = 1; packet 0 0 5 = 1; write 2 1 = 43; send 0 = 5; write 2 1 = 44",
            "send 0 = 6; write 2 1 = 45; send 0 = 7; come 4 = 1; send 1 = 2; come 4 = 1; packet 0 4 6 = 1",
            "stream 0 5 = 84; state 0 0 = 7; stream 0 4 = 42");
        Rows.run("12 END that is LOST and TOLD of",
            "end 0 = 1; send 0 = 0; write 2 1 = 1; send 0 = 1; write 2 1 = 2; send 0 = 2; write 2 1 = 3; send 0 = 3",
            "come 3 = 1; send 1 = 0; come 3 = 1; packet 0 0 6 = 1; come 0 = 1; send 1 = 1; come 2 = 1",
            "stream 0 7 = 1; send 0 = -5");
        Rows.run("12 END that arrived stays so",
            "end 0 = 1; send 0 = 0; write 2 1 = 1; send 0 = 1; write 2 1 = 2; send 0 = 2; write 2 1 = 3; send 0 = 3",
            "come 3 = 1; send 1 = 0; come 3 = 1; send 0 = 4; part 0 4 0 3 = 10000; drop 3 = 3; come 0 = 1",
            "send 1 = 1; come 2 = 1; stream 0 7 = 1; write 2 1 = 4; send 0 = 5; write 2 1 = 5; send 0 = 6",
            "write 2 1 = 6; send 0 = 7; come 4 = 1; send 1 = 2; come 4 = 1; packet 0 4 6 = 1; stream 0 7 = 1",
            "send 0 = 8; packet 0 8 3 = 1; part 0 8 0 1 = 2; part 0 8 0 3 = 2");
    }

    private static void probes() {
        Rows.run("12 PROBES, each later",
            "write 0 5 = 5; send 0 = 0; tick 7 = 7; side 0 8 = 0; side 0 9 = 0; tick 1 = 8; side 0 8 = 1",
            "side 0 9 = 1; side 1 8 = 0; tick 7 = 15; side 0 8 = 1; tick 1 = 16; side 0 8 = 2; tick 15 = 31",
            "side 0 8 = 2; tick 1 = 32; side 0 8 = 3; tick 32 = 64; side 0 8 = 4; tick 63 = 127; side 0 8 = 4",
            "tick 1 = 128; side 0 8 = 5; tick 127 = 255; side 0 8 = 5; tick 1 = 256; side 0 8 = 6; tick 255 = 511",
            "side 0 8 = 6; tick 1 = 512; side 0 8 = 7; tick 3 = 515; side 0 8 = 10; side 0 9 = 1");
        Rows.run("12 from the last HEAVY PACKET on",
            "write 0 5 = 5; send 0 = 0; tick 8 = 8; send 0 = 1; side 0 9 = 0; packet 0 1 2 = 11; packet 0 1 3 = 1",
            "packet 0 1 4 = 1; part 0 1 0 0 = 8; part 0 1 0 1 = 0; send 0 = -5; tick 15 = 23; side 0 9 = 0",
            "tick 1 = 24; side 0 9 = 1; side 0 8 = 2; write 1 5 = 5; send 1 = 0; come 2 = 1; send 0 = 2",
            "packet 0 2 3 = 2; part 0 2 0 0 = 1; part 0 2 1 0 = 8; packet 0 2 2 = 17");
        Rows.run("12 other parts take the PING's place",
            "write 0 5 = 5; send 0 = 0; tick 8 = 8; write 0 5 = 10; send 0 = 1; packet 0 1 3 = 1; part 0 1 0 0 = 4",
            "side 0 9 = 0; send 0 = -5");
        Rows.run("12 a PACKET that is not HEAVY leaves the PROBE's time",
            "write 1 5 = 5; send 1 = 0; write 0 5 = 5; send 0 = 0; come 0 = 1; tick 4 = 4; send 0 = 1",
            "packet 0 1 4 = 0; tick 3 = 7; side 0 9 = 0; tick 1 = 8; side 0 9 = 1; side 1 9 = 1");
        Rows.run("12 none without FLIGHT",
            round(0, 3, 3),
            "side 0 1 = 0; tick 1000 = 1003; side 0 8 = 0; side 0 9 = 0");
        Rows.run("12 TOLD: PROBES begun are 0, the OWED one stays",
            "write 0 5 = 5; send 0 = 0; tick 8 = 8; side 0 8 = 1; come 0 = 1; send 1 = 0; come 0 = 1; side 0 8 = 0",
            "side 0 9 = 1; send 0 = 1; part 0 1 0 0 = 8; side 0 9 = 0");
        Rows.run("12 TOLD of a HEAVY one below one that is not",
            "shape 60 1000 4000 = 1; write 0 42 = 42; send 0 = 0; write 1 5 = 5; send 1 = 0; come 1 = 1; send 0 = 1",
            "packet 0 1 4 = 0; come 0 = 1; come 0 = 1; send 1 = 1; tick 8 = 8; side 0 8 = 1; come 0 = 1",
            "side 0 10 = 1; side 0 8 = 0; side 0 5 = -6; side 0 2 = 660");
        Rows.run("12 a PACKET that is TOLD of anew leaves PROBES",
            "shape 60 1000 4000 = 1; write 0 84 = 84; send 0 x2 = 0 1; twice 0 = 3; come 0 = 1; send 1 = 0",
            "come 2 = 1; side 0 10 = 0; come 1 = 0; send 1 = 1; tick 3 = 3; side 0 8 = 1; come 1 = 1; side 0 8 = 1");
        Rows.run("12 WAIT",
            round(0, 3, 3),
            "write 0 5 = 6; send 0 = 1; tick 10 = 13; side 0 9 = 0; tick 1 = 14; side 0 9 = 1; side 0 8 = 1",
            "tick 10 = 24; side 0 8 = 1; tick 1 = 25; side 0 8 = 2");
        Rows.run("12 WAIT with a small VARY",
            "write 0 1 = 1; send 0 = 0; come 0 = 1; send 1 = 0; come 0 = 1; write 0 1 = 2; send 0 = 1; tick 2 = 2",
            "side 0 9 = 0; tick 1 = 3; side 0 9 = 1");
        Rows.run("12 WAIT at an edge",
            round(0, 1, 1), round(1, 1, 2), round(2, 1, 3), round(3, 1, 4), round(4, 1, 5),
            "side 0 6 = 8; side 0 7 = 0; write 0 1 = 6; send 0 = 5; come 0 = 1; send 1 = 5; come 0 = 1",
            "side 0 6 = 7; side 0 7 = 2; write 0 1 = 7; send 0 = 6; tick 2 = 7; side 0 9 = 0; tick 1 = 8",
            "side 0 9 = 1");
        Rows.run("12 LOST is looked for ahead of the PROBE",
            "shape 60 1000 4000 = 1; write 0 84 = 84; send 0 x2 = 0 1; tick 7 = 7; come 1 = 1; send 1 = 0",
            "come 1 = 1; side 0 5 = 7; packet 0 0 6 = 1; side 0 1 = 0; tick 90 = 97; side 0 9 = 0");
    }
}
