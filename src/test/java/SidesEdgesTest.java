/** The edges that the document names of STREAMS, their bytes and BOUNDS (section 1), and of promises 1 to 7. */
public final class SidesEdgesTest {
    private SidesEdgesTest() {
    }

    public static void main(String[] args) {
        directions();
        shapeRefused();
        shapeSets();
        written();
        endedAndCutOff();
        boundLets();
        boundOfAllLets();
        boundOwed();
        boundOfAllOwed();
        prefix();
        moves();
        calls();
        Rows.close();
    }

    private static void directions() {
        for (int s = 0; s < 8; s++) {
            int own = s % 2;
            String other = String.valueOf(1 - own);
            Rows.run("1 the even STREAMS go from SIDE 0, the odd ones back: " + s,
                "write " + s + " 5 = 5; send " + other + " = -5; side " + own + " 14 = 0; send " + own + " = 0",
                "part " + own + " 0 0 1 = " + s + "; side " + own + " 14 = 5; side " + other + " 14 = 0; come 0 = 1",
                "stream " + s + " 8 = 5; stream " + (7 - s) + " 8 = 0; stream " + (s + 2) % 8 + " 8 = 0; net 0 0 = -1",
                "side " + other + " 12 = 1; side " + own + " 12 = 0; read " + s + " 6 = 5");
            Rows.run("1 a BOUND of it is the receiver's: " + s,
                "shape 200 50 4000 = 1; write " + s + " 25 = 25; send " + own + " = 0; come 0 = 1",
                "read " + s + " 25 = 25",
                "send " + own + " = -5; send " + other + " = 0; packet " + other + " 0 3 = 2",
                "part " + other + " 0 1 0 = 2",
                "part " + other + " 0 1 1 = " + s + "; part " + other + " 0 1 2 = 75; packet " + other + " 0 2 = 21",
                "come 0 = 1; stream " + s + " 6 = 75; stream " + (7 - s) + " 6 = 50",
                "stream " + (s + 2) % 8 + " 6 = 50");
            Rows.run("1 a BOUND OF ALL is the receiver's: " + s,
                "shape 200 1000 50 = 1; write " + s + " 25 = 25; send " + own + " = 0; come 0 = 1",
                "read " + s + " 25 = 25",
                "side " + other + " 15 = 1; side " + own + " 15 = 0; send " + own + " = -5; send " + other + " = 0",
                "part " + other + " 0 1 0 = 3; part " + other + " 0 1 1 = 0; part " + other + " 0 1 2 = 75; come 0 = 1",
                "side " + own + " 13 = 75; side " + other + " 13 = 50; side " + other + " 16 = 75",
                "side " + own + " 16 = 50");
            Rows.run("5 CUT OFF is the sender's: " + s,
                "cut " + s + " = 1; send " + other + " = -5; send " + own + " = 0; packet " + own + " 0 3 = 1",
                "part " + own + " 0 0 0 = 5; part " + own + " 0 0 1 = " + s + "; packet " + own + " 0 2 = 17",
                "send " + own + " = -5; come 0 = 1; stream " + s + " 14 = 1; stream " + (7 - s) + " 14 = 0");
        }
    }

    private static void shapeRefused() {
        for (int s = 0; s < 8; s++) {
            String after = "shape 60 50 50 = -3; side 0 2 = 2000; side 1 13 = 600; stream 0 6 = 300; stream 7 11 = 300";
            Rows.run("2 something is WRITTEN", "write " + s + " 1 = 1", after);
            Rows.run("2 something is ENDED", "end " + s + " = 1", after);
            Rows.run("2 something is CUT OFF", "cut " + s + " = 1", after);
        }
        Rows.run("2 something was sent, and nothing is under way", "write 1 1 = 1; send 1 = 0; drop 0 = 0",
            "shape 60 50 50 = -3; shape 200 300 600 = -3; side 0 2 = 2000");
        Rows.run("2 a refused write, end, cut does not hinder it", "write 0 0 = -2; write 8 1 = -1; end 8 = -1",
            "cut -1 = -1; send 0 = -5; read 0 5 = 0; shape 60 50 50 = 1");
        Rows.run("2 what is refused leaves ROOM, WINDOW and WIDE", "shape 100 60 70 = 1; shape 1001 50 50 = -2",
            "shape 60 49 50 = -2; shape 60 50 4001 = -2; write 0 61 = 61; write 2 20 = 20; shape 60 50 50 = -3",
            "shape 1000 1000 4000 = -3; send 0 = 0; packet 0 0 2 = 96; part 0 0 0 3 = 60; part 0 0 1 3 = 10",
            "shape 60 50 50 = -3; come 0 = 1; read 0 29 = 29; stream 0 12 = 0; shape 60 50 50 = -3; read 0 1 = 1",
            "stream 0 12 = 1; side 1 15 = 0; read 2 4 = 4; side 1 15 = 0; read 2 1 = 1; side 1 15 = 1",
            "shape 1000 1000 4000 = -3; send 1 = 0; part 1 0 1 2 = 90; part 1 0 2 2 = 105; write 2 200 = 220",
            "come 0 = 1; send 0 = 1; packet 0 1 2 = 67; part 0 1 1 1 = 0; part 0 1 1 3 = 1; part 0 1 2 3 = 34",
            "side 0 14 = 105");
        Rows.run("2 what is refused leaves the last shape", "shape 100 60 70 = 1; shape 59 1000 4000 = -2",
            "side 0 2 = 1000; side 1 2 = 1000; stream 3 6 = 60; stream 3 11 = 60; side 0 13 = 70; side 1 16 = 70");
    }

    private static void shapeSets() {
        int[][] shapes = {{60, 50, 50}, {61, 51, 51}, {200, 300, 600}, {999, 999, 3999}, {1000, 1000, 4000}};
        for (int[] shape : shapes) {
            String call = "shape " + shape[0] + " " + shape[1] + " " + shape[2] + " = 1";
            for (int s = 0; s < 8; s++) {
                Rows.run("2 WINDOW of each STREAM", "shape 70 70 70 = 1", call, "stream " + s + " 6 = " + shape[1],
                    "stream " + s + " 11 = " + shape[1] + "; stream " + s + " 12 = 0; stream " + s + " 0 = 0");
            }
            for (int side = 0; side < 2; side++) {
                Rows.run("2 ROOM and WIDE of each SIDE", "shape 70 70 70 = 1", call,
                    "side " + side + " 2 = " + 10 * shape[0] + "; side " + side + " 3 = 1000000",
                    "side " + side + " 4 = -1",
                    "side " + side + " 13 = " + shape[2] + "; side " + side + " 16 = " + shape[2],
                    "side " + side + " 15 = 0; side " + side + " 1 = 0; side " + side + " 5 = -6");
            }
        }
    }

    private static void written() {
        Rows.run("3 1000 at most", "write 0 999 = 999; write 0 2 = -4; stream 0 0 = 999; write 0 1 = 1000",
            "write 0 1 = -4; stream 0 0 = 1000");
        Rows.run("3 of each STREAM", "write 0 1000 = 1000; write 2 1000 = 1000; write 1 1000 = 1000; write 2 1 = -4",
            "write 3 1 = 1");
        Rows.run("3 bytes that have arrived still count", "shape 1000 1000 4000 = 1; write 0 900 = 900; send 0 = 0",
            "come 0 = 1; send 1 = 0; come 0 = 1; stream 0 4 = 900; read 0 900 = 900; write 0 101 = -4",
            "write 0 100 = 1000");
    }

    private static void endedAndCutOff() {
        Rows.run("4 no more are written to one that is ENDED, though its END has arrived",
            "write 0 5 = 5; end 0 = 1; write 0 1 = -3; send 0 = 0; write 0 1 = -3; come 0 = 1; send 1 = 0; come 0 = 1",
            "stream 0 7 = 1; write 0 1 = -3; end 0 = -3; stream 0 0 = 5; stream 0 1 = 1; cut 0 = 1; cut 0 = -3");
        Rows.run("4 an empty STREAM is ENDED", "end 6 = 1; stream 6 0 = 0; stream 6 1 = 1; send 0 = 0; send 0 = -5",
            "packet 0 0 2 = 18; part 0 0 0 1 = 6; part 0 0 0 2 = 0; part 0 0 0 3 = 10000");
        Rows.run("4 one that is full is ENDED", "write 1 1000 = 1000; end 1 = 1; write 1 1 = -3");
        Rows.run("5 CUT OFF stays when it is sent and has come",
            "write 0 5 = 5; cut 0 = 1; send 0 = 0; write 0 1 = -3; end 0 = -3; cut 0 = -3; come 0 = 1; send 1 = 0",
            "come 0 = 1; write 0 1 = -3; end 0 = -3; cut 0 = -3; stream 0 1 = 0; stream 0 0 = 5; send 0 = -5");
        Rows.run("5 no END of one that is CUT OFF", "end 2 = 1; cut 2 = 1; send 0 = 0; packet 0 0 3 = 1",
            "part 0 0 0 0 = 5; send 0 = -5; stream 2 1 = 1; stream 2 2 = 1");
        Rows.run("5 nor is END, or a byte, sent AGAIN",
            "shape 60 1000 4000 = 1; write 0 42 = 42; end 0 = 1; send 0 = 0; write 2 126 = 126; send 0 x3 = 1 2 3",
            "cut 0 = 1; come 3 = 1; send 1 = 0; come 3 = 1; packet 0 0 6 = 1; stream 0 5 = 42; send 0 = 4",
            "packet 0 4 3 = 1; part 0 4 0 0 = 5; send 0 = -5; stream 0 5 = 42; state 0 0 = 2");
        Rows.run("5 what came can be read", "write 0 5 = 5; send 0 = 0; cut 0 = 1; send 0 = 1; come 1 = 1",
            "stream 0 14 = 1; stream 0 8 = 0; come 0 = 1; stream 0 8 = 5; read 0 9 = 5; stream 0 10 = 5");
    }

    private static void boundLets() {
        int[] windows = {50, 51, 100};
        for (int w : windows) {
            String shape = "shape 200 " + w + " 4000 = 1; ";
            Rows.run("1 bytes below the BOUND " + w + ", one more WRITTEN",
            shape + "write 0 " + (w + 1) + " = " + (w + 1),
                "send 0 = 0; part 0 0 0 3 = " + w + "; state 0 " + (w - 1) + " = 1; state 0 " + w + " = 0; send 0 = -5",
                "stream 0 3 = " + w);
            Rows.run("1 bytes below the BOUND " + w + ", as many", shape + "write 1 " + w + " = " + w + "; send 1 = 0",
                "part 1 0 0 3 = " + w + "; state 1 " + (w - 1) + " = 1; send 1 = -5");
            Rows.run("1 bytes below the BOUND " + w + ", one less", shape + "write 0 " + (w - 1) + " = " + (w - 1),
                "send 0 = 0; part 0 0 0 3 = " + (w - 1) + "; write 0 2 = " + (w + 1) + "; send 0 = 1",
                "part 0 1 0 3 = 1");
        }
        Rows.run("1 WINDOW is 300 at first", "write 0 301 = 301; end 0 = 1; send 0 x2 = 0 1; part 0 0 0 3 = 182",
            "part 0 1 0 3 = 118; state 0 299 = 1; state 0 300 = 0; send 0 = -5; come 0 x2 = 1; read 0 149 = 149",
            "stream 0 12 = 0; read 0 1 = 1; stream 0 12 = 1; side 1 15 = 0; send 1 = 0; part 1 0 1 2 = 450; come 0 = 1",
            "send 0 = 2; part 0 2 1 3 = 10001");
        Rows.run("1 WINDOW 1000", "shape 1000 1000 4000 = 1; write 0 1000 = 1000; send 0 x2 = 0 1; part 0 0 0 3 = 982",
            "part 0 1 0 3 = 18; state 0 999 = 1; send 0 = -5");
        Rows.run("1 WINDOW 999", "shape 1000 999 4000 = 1; write 0 1000 = 1000; end 0 = 1; send 0 x2 = 0 1",
            "part 0 0 0 3 = 982; part 0 1 0 3 = 17; state 0 998 = 1; state 0 999 = 0; send 0 = -5");
        Rows.run("1 the sender lets what it knows, not what was told last",
            "shape 200 50 4000 = 1; write 0 100 = 100; send 0 = 0; come 0 = 1; read 0 25 = 25; send 1 = 0",
            "stream 0 11 = 75; stream 0 6 = 50; send 0 = -5; drop 0 = 0; stream 0 6 = 50; send 0 = -5",
            "stream 0 3 = 50");
        Rows.run("1 the sender knows what came, not what was told last",
            "shape 200 50 4000 = 1; write 0 100 = 100; send 0 = 0; come 0 = 1; read 0 25 = 25; send 1 = 0",
            "read 0 25 = 25; send 1 = 1; stream 0 11 = 100; drop 1 = 1; come 0 = 1; stream 0 6 = 75; send 0 = 1",
            "part 0 1 1 3 = 25; stream 0 3 = 75");
        Rows.run("1 each STREAM has its own BOUND", "shape 200 50 4000 = 1; write 0 60 = 60; write 2 60 = 60",
            "send 0 = 0; part 0 0 0 3 = 50; part 0 0 1 3 = 50; stream 0 3 = 50; stream 2 3 = 50; send 0 = -5");
    }

    private static void boundOfAllLets() {
        Rows.run("1 no more than the BOUND OF ALL, one below, as many, one more",
            "shape 200 1000 50 = 1; write 0 49 = 49; write 2 1 = 1; write 4 1 = 1; send 0 = 0; packet 0 0 3 = 2",
            "part 0 0 0 3 = 49; part 0 0 1 1 = 2; part 0 0 1 3 = 1; stream 4 3 = 0; side 0 14 = 50; send 0 = -5");
        Rows.run("1 of one STREAM", "shape 200 1000 51 = 1; write 7 52 = 52; send 1 = 0; part 1 0 0 3 = 51",
            "side 1 14 = 51; state 7 50 = 1; state 7 51 = 0; send 1 = -5");
        Rows.run("1 WIDE is 600 at first", "write 0 299 = 299; write 2 300 = 300; write 4 2 = 2; send 0 x4 = 0 1 2 3",
            "side 0 14 = 600; stream 0 3 = 299; stream 2 3 = 299; stream 4 3 = 2; send 0 = -5; come 0 x4 = 1",
            "read 0 299 = 299; side 1 15 = 0; read 4 1 = 1; side 1 15 = 1; send 1 = 0; part 1 0 2 0 = 3",
            "part 1 0 2 2 = 900; come 0 = 1; send 0 = 4; part 0 4 1 3 = 1");
        String four = "write 0 1000 = 1000; write 2 1000 = 1000; write 4 1000 = 1000; write 6 1000 = 1000";
        Rows.run("1 WIDE 4000", "shape 1000 1000 4000 = 1", four, "send 0 x5 = 0 1 2 3 4; side 0 14 = 4000",
            "packet 0 4 3 = 4; part 0 4 3 3 = 18; state 6 999 = 1; send 0 = -5");
        Rows.run("1 WIDE 3999", "shape 1000 1000 3999 = 1", four, "send 0 x5 = 0 1 2 3 4; side 0 14 = 3999",
            "packet 0 4 3 = 4; part 0 4 3 3 = 17; state 6 998 = 1; state 6 999 = 0; send 0 = -5");
        Rows.run("1 what is CUT OFF still counts", "shape 200 1000 50 = 1; write 0 50 = 50; send 0 = 0; cut 0 = 1",
            "write 2 5 = 5; send 0 = 1; packet 0 1 3 = 1; part 0 1 0 0 = 5; send 0 = -5; side 0 14 = 50");
        Rows.run("1 what has arrived still counts", "shape 200 1000 50 = 1; write 0 51 = 51; send 0 = 0; come 0 = 1",
            "send 1 = 0; come 0 = 1; stream 0 4 = 50; send 0 = -5; side 0 14 = 50");
        Rows.run("1 the BOUND of a STREAM is not that OF ALL", "shape 200 100 50 = 1; write 0 60 = 60; write 2 60 = 60",
            "send 0 = 0; come 0 = 1; read 0 50 = 50; send 1 = 0; part 1 0 1 2 = 150; part 1 0 2 2 = 100; come 0 = 1",
            "stream 0 6 = 150; stream 2 6 = 100; side 0 13 = 100; side 1 13 = 50; stream 1 6 = 100; send 0 = 1",
            "side 0 14 = 100; send 0 = -5");
        Rows.run("1 it is what came that lets, not what this SIDE told",
            "shape 200 1000 50 = 1; write 1 50 = 50; send 1 = 0; come 0 = 1; read 1 50 = 50; write 0 100 = 100",
            "send 0 = 0; part 0 0 1 0 = 3; part 0 0 1 2 = 100; part 0 0 2 3 = 50; side 0 16 = 100; side 0 13 = 50",
            "send 0 = -5; write 1 60 = 110; send 1 = -5; come 0 = 1; side 1 13 = 100; send 1 = 1; part 1 1 1 3 = 50",
            "side 1 14 = 100; send 1 = -5");
    }

    /** READ and WINDOW together above what was told last by one less than half of WINDOW, by half, by one more. */
    private static void boundOwed() {
        for (int w : new int[] {50, 51, 52, 53, 300, 999, 1000}) {
            int half = w / 2;
            String come = "shape 1000 " + w + " 4000 = 1; write 0 " + w + " = " + w
                + (w > 982 ? "; send 0 x2 = 0 1; come 0 x2 = 1" : "; send 0 = 0; come 0 = 1");
            Rows.run("6 a BOUND is OWED from half of WINDOW " + w + " on", come,
                "read 0 " + (half - 1) + " = " + (half - 1) + "; stream 0 12 = 0; read 0 1 = 1; stream 0 12 = 1",
                "stream 0 11 = " + w + "; stream 0 6 = " + w + "; side 1 15 = 0");
            Rows.run("6 as much at once, WINDOW " + w, come, "read 0 " + half + " = " + half + "; stream 0 12 = 1");
            Rows.run("6 one more at once, WINDOW " + w, come,
                "read 0 " + (half + 1 > w ? w : half + 1) + " = " + (half + 1) + "; stream 0 12 = 1");
            Rows.run("6 above what was told last, WINDOW " + w, come, "read 0 " + half + " = " + half + "; send 1 = 0",
                "stream 0 11 = " + (w + half) + "; stream 0 12 = 0; read 0 " + (half - 1) + " = " + (half - 1),
                "stream 0 12 = 0; read 0 1 = 1; stream 0 12 = 1; send 1 = 1; part 1 1 0 2 = " + (w + 2 * half));
        }
        Rows.run("6 of that STREAM alone", "shape 200 50 4000 = 1; write 0 24 = 24; write 2 24 = 24; write 1 24 = 24",
            "send 0 = 0; send 1 = 0; come 0 x2 = 1; read 0 24 = 24; read 2 24 = 24; read 1 24 = 24; stream 0 12 = 0",
            "stream 2 12 = 0; stream 1 12 = 0");
    }

    private static void boundOfAllOwed() {
        for (int w : new int[] {50, 51, 52, 53, 600, 601}) {
            int half = w / 2;
            String come = "shape 1000 1000 " + w + " = 1; write 0 " + (half - 1) + " = " + (half - 1)
                + "; write 2 2 = 2; send 0 = 0; come 0 = 1";
            Rows.run("6 a BOUND OF ALL is OWED from half of WIDE " + w + " on", come,
                "read 0 1000 = " + (half - 1) + "; side 1 15 = 0; read 2 1 = 1; side 1 15 = 1; side 1 16 = " + w,
                "side 0 15 = 0; send 1 = 0; side 1 15 = 0; side 1 16 = " + (w + half) + "; read 2 1 = 1",
                "side 1 15 = 0");
            Rows.run("6 as much at once, WIDE " + w, "shape 1000 1000 " + w + " = 1; write 0 " + w + " = " + w,
                "send 0 = 0; come 0 = 1; read 0 " + half + " = " + half + "; side 1 15 = 1");
            Rows.run("6 all that is READ above what was told last, WIDE " + w,
                "shape 1000 1000 " + w + " = 1; write 0 " + w + " = " + w + "; send 0 = 0; come 0 = 1",
                "read 0 " + half + " = " + half + "; send 1 = 0; read 0 " + (half - 1) + " = " + (half - 1),
                "side 1 15 = 0; read 0 1 = 1; side 1 15 = 1");
        }
        Rows.run("6 half of WIDE 4000", "shape 1000 1000 4000 = 1; write 0 1000 = 1000; write 2 1000 = 1000",
            "send 0 x3 = 0 1 2; come 0 x3 = 1; read 0 1000 = 1000; read 2 999 = 999; side 1 15 = 0; read 2 1 = 1",
            "side 1 15 = 1; side 1 16 = 4000");
        Rows.run("6 nothing READ owes nothing", "shape 200 50 50 = 1; read 0 1000 = 0; stream 0 12 = 0; side 1 15 = 0",
            "write 0 50 = 50; send 0 = 0; read 0 1000 = 0; stream 0 12 = 0; side 1 15 = 0; send 1 = -5");
    }

    private static void prefix() {
        Rows.run("1 the PREFIX is as far as none is missing: the first is missing",
            "shape 60 1000 4000 = 1; write 0 1 = 1; send 0 = 0; write 0 42 = 43; send 0 = 1; come 1 = 1",
            "stream 0 8 = 42; stream 0 9 = 0; read 0 1 = 0; state 0 0 = 1; state 0 1 = 5; state 0 42 = 5; come 0 = 1",
            "stream 0 9 = 43; state 0 0 = 5; read 0 44 = 43");
        Rows.run("1 the PREFIX: one in the middle is missing",
            "shape 60 1000 4000 = 1; write 0 42 = 42; send 0 = 0; write 0 1 = 43; send 0 = 1; write 0 42 = 85",
            "send 0 = 2; come 0 = 1; stream 0 9 = 42; come 1 = 1; stream 0 9 = 42; stream 0 8 = 84; read 0 50 = 42",
            "read 0 1 = 0; come 0 = 1; stream 0 9 = 85; stream 0 8 = 85; read 0 43 = 43; read 0 1 = 0");
        Rows.run("1 up to the last byte there can be", "shape 1000 1000 4000 = 1; write 0 1000 = 1000; send 0 x2 = 0 1",
            "come 1 = 1; stream 0 9 = 0; stream 0 8 = 18; come 0 = 1; stream 0 9 = 1000; read 0 1000 = 1000",
            "read 0 1 = 0");
        Rows.run("1 a byte that comes in two PACKETS CAME once",
            "shape 60 1000 4000 = 1; write 0 168 = 168; send 0 x4 = 0 1 2 3; come 3 = 1; send 1 = 0; come 3 = 1",
            "packet 0 0 6 = 1; come 0 = 1; stream 0 8 = 84; stream 0 9 = 42; send 0 = 4; part 0 4 0 2 = 0; come 2 = 1",
            "packet 0 4 7 = 1; stream 0 8 = 84; stream 0 9 = 42; state 0 0 = 5");
    }

    private static void moves() {
        Rows.run("7 50 at most", "move x49 = " + Rows.numbers(1, 49), "told 2 = 49; move = 50; told 2 = 50; move = -4",
            "move = -4; told 2 = 50; told 3 = 0; write 0 60 = 60; send 0 = 0; packet 0 0 1 = 50; come 0 = 1",
            "told 3 = 50; told 4 = 1; send 1 = 0; packet 1 0 1 = 50; come 0 = 1; told 7 = 0; move = -4");
        Rows.run("3 the ADDRESS is of what is sent later, not of what is under way",
            "write 0 1 = 1; send 0 = 0; move = 1; packet 0 0 1 = 0; write 0 1 = 2; send 0 = 1; packet 0 1 1 = 1");
    }

    private static void calls() {
        Rows.run("an object is used for 512 calls", "tick 1 x511 = " + Rows.numbers(1, 511), "told 0 = 511");
        StringBuilder times = new StringBuilder();
        for (int n = 1; n <= 509; n++) {
            times.append(1000 * n).append(' ');
        }
        Rows.run("512 calls of a thousand TICKS", "write 0 1 = 1; send 0 = 0; tick 1000 x509 = " + times,
            "told 0 = 509000");
    }
}
