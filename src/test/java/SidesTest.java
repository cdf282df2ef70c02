/** Promises 1 to 7: a new object, shape, write, end, cut, read, move. */
public final class SidesTest {
    private SidesTest() {
    }

    public static void main(String[] args) {
        newObject();
        shape();
        write();
        end();
        cut();
        read();
        bounds();
        move();
        Rows.close();
    }

    private static void newObject() {
        Rows.run("1 nothing is there",
            "told 0 = 0; told 1 = 0; told 2 = 0; told 3 = 0; told 4 = 0; told 5 = 0; told 6 = 0; told 7 = 0",
            "packet 0 0 0 = -1; packet 1 0 0 = -1; net 0 0 = -1; send 0 = -5; send 1 = -5");
        for (int side = 0; side < 2; side++) {
            int[] due = {0, 0, 2000, 1000000, -1, -6, -6, -6, 0, 0, -6, -6, 0, 600, 0, 0, 600};
            for (int what = 0; what < due.length; what++) {
                Rows.run("1 a side", "side " + side + " " + what + " = " + due[what]);
            }
        }
        for (int stream = 0; stream < 8; stream++) {
            int[] due = {0, 0, 0, 0, 0, 0, 300, 0, 0, 0, 0, 300, 0, -6, 0};
            for (int what = 0; what < due.length; what++) {
                Rows.run("1 a stream", "stream " + stream + " " + what + " = " + due[what]);
            }
            Rows.run("1 bytes", "state " + stream + " 0 = 0; state " + stream + " 999 = 0");
        }
    }

    private static void shape() {
        Rows.run("2 edges",
            "shape 59 50 50 = -2; shape 1001 50 50 = -2; shape 60 49 50 = -2; shape 60 1001 50 = -2",
            "shape 60 50 49 = -2; shape 60 50 4001 = -2; shape -1 -1 -1 = -2; side 0 2 = 2000; stream 0 6 = 300",
            "side 0 13 = 600; shape 60 50 50 = 1; side 0 2 = 600; side 1 2 = 600; stream 5 6 = 50; side 1 13 = 50",
            "shape 1000 1000 4000 = 1; side 0 2 = 10000; side 1 2 = 10000; side 0 3 = 1000000; side 0 4 = -1",
            "stream 0 6 = 1000; stream 7 6 = 1000; stream 3 11 = 1000; stream 4 11 = 1000; side 0 13 = 4000",
            "side 1 13 = 4000; side 0 16 = 4000; side 1 16 = 4000");
        Rows.run("2 ticks and moves do not hinder it",
            "tick 5 = 5; move = 1; shape 100 60 70 = 1; stream 0 6 = 60; side 1 13 = 70; side 0 2 = 1000",
            "write 0 200 = 200; shape 60 50 50 = -3; shape 59 50 50 = -2; side 0 2 = 1000; stream 0 6 = 60",
            "send 0 = 0; packet 0 0 2 = 78; shape 60 50 50 = -3");
        Rows.run("2 ROOM binds",
            "shape 73 50 50 = 1; write 1 90 = 90; send 1 = 0; packet 1 0 2 = 68; write 3 9 = 9; send 1 = -5",
            "stream 3 3 = 0");
        Rows.run("2 ROOM cuts the bytes",
            "shape 60 50 50 = 1; write 1 90 = 90; send 1 = 0; packet 1 0 2 = 60; stream 1 3 = 42");
        Rows.run("2 ENDED alone is a state",
            "end 3 = 1; shape 60 50 50 = -3");
        Rows.run("2 CUT OFF alone is a state",
            "cut 5 = 1; shape 60 50 50 = -3");
    }

    private static void write() {
        Rows.run("3 how many are WRITTEN",
            "write 0 1 = 1; write 0 998 = 999; write 0 1 = 1000; write 0 1 = -4; write 0 1000 = -4",
            "stream 0 0 = 1000; write 1 1000 = 1000; write 1 1 = -4; write 7 5 = 5; write 7 6 = 11; stream 7 0 = 11",
            "stream 6 0 = 0");
        Rows.run("3 refused",
            "write 2 1001 = -2; write 2 0 = -2; write 2 -1 = -2; write -1 1 = -1; write 8 1 = -1; write 8 0 = -1",
            "write 2 2147483647 = -2; write -2147483648 1 = -1; stream 2 0 = 0; write 7 5 = 5; end 7 = 1",
            "write 7 1 = -3; write 7 0 = -2; write 7 1000 = -3; stream 7 0 = 5; cut 6 = 1; write 6 1 = -3",
            "write 6 1001 = -2; stream 6 0 = 0");
    }

    private static void end() {
        Rows.run("4",
            "end 0 = 1; stream 0 1 = 1; end 0 = -3; end -1 = -1; end 8 = -1; cut 1 = 1; end 1 = -3; stream 1 1 = 0",
            "write 2 3 = 3; end 2 = 1; stream 2 0 = 3; stream 2 1 = 1");
    }

    private static void cut() {
        Rows.run("5 it is OWED",
            "cut 0 = 1; stream 0 2 = 1; cut 0 = -3; cut 8 = -1; cut -1 = -1; end 2 = 1; cut 2 = 1; stream 2 2 = 1",
            "send 0 = 0; packet 0 0 2 = 24; packet 0 0 3 = 2; part 0 0 0 0 = 5; part 0 0 0 1 = 0; part 0 0 0 2 = 0",
            "part 0 0 0 3 = 0; part 0 0 1 1 = 2; send 0 = -5; stream 0 14 = 0; come 0 = 1; stream 0 14 = 1",
            "stream 2 14 = 1; stream 4 14 = 0");
        Rows.run("5 none of its bytes is sent",
            "write 4 10 = 10; end 4 = 1; cut 4 = 1; send 0 = 0; packet 0 0 3 = 1; part 0 0 0 0 = 5; stream 4 3 = 0",
            "state 4 0 = 0; send 0 = -5");
    }

    private static void read() {
        Rows.run("6 of the PREFIX alone",
            "shape 60 300 600 = 1; write 0 100 = 100; send 0 x3 = 0 1 2; come 1 = 1; stream 0 8 = 42",
            "stream 0 9 = 0; read 0 10 = 0; come 0 = 1; stream 0 9 = 84; read 0 10 = 10; read 0 1000 = 74",
            "read 0 1 = 0; stream 0 10 = 84; come 0 = 1; read 0 16 = 16; stream 0 10 = 100");
        Rows.run("6 refused",
            "write 0 5 = 5; send 0 = 0; come 0 = 1; read 0 0 = -2; read 0 -5 = -2; read 0 1001 = -2; read 8 0 = -1",
            "read -1 1 = -1; read 8 1 = -1; stream 0 10 = 0; read 0 1000 = 5; read 1 1 = 0");
    }

    private static void bounds() {
        Rows.run("6 when a BOUND is OWED",
            "shape 200 100 200 = 1; write 0 150 = 150; send 0 = 0; come 0 = 1; read 0 49 = 49; stream 0 12 = 0",
            "side 1 15 = 0; read 0 1 = 1; stream 0 12 = 1; side 1 15 = 0; read 0 49 = 49; side 1 15 = 0",
            "read 0 1 = 1; side 1 15 = 1; side 0 15 = 0; stream 0 11 = 100; side 1 16 = 200; send 1 = 0",
            "packet 1 0 2 = 26; packet 1 0 3 = 3; part 1 0 1 0 = 2; part 1 0 1 1 = 0; part 1 0 1 2 = 200",
            "part 1 0 1 3 = 0; part 1 0 2 0 = 3; part 1 0 2 1 = 0; part 1 0 2 2 = 300; part 1 0 2 3 = 0",
            "stream 0 11 = 200; stream 0 12 = 0; side 1 15 = 0; side 1 16 = 300; stream 0 6 = 100; side 0 13 = 200",
            "come 0 = 1; stream 0 6 = 200; side 0 13 = 300; stream 2 6 = 100");
        Rows.run("6 half of an odd WINDOW is cut",
            "shape 200 51 51 = 1; write 1 51 = 51; send 1 = 0; come 0 = 1; read 1 24 = 24; stream 1 12 = 0",
            "side 0 15 = 0; read 1 1 = 1; stream 1 12 = 1; side 0 15 = 1; side 1 15 = 0");
        Rows.run("6 all STREAMS count for the BOUND OF ALL",
            "shape 1000 100 100 = 1; write 0 20 = 20; write 2 20 = 20; write 4 20 = 20; write 1 40 = 40; send 0 = 0",
            "send 1 = 0; come 0 = 1; come 0 = 1; read 0 20 = 20; read 2 20 = 20; read 1 40 = 40; side 1 15 = 0",
            "side 0 15 = 0; read 4 9 = 9; side 1 15 = 0; read 4 1 = 1; side 1 15 = 1; stream 4 12 = 0",
            "side 0 15 = 0");
        Rows.run("6 a BOUND tells what is READ when it is sent",
            "shape 200 100 4000 = 1; write 0 100 = 100; send 0 = 0; come 0 = 1; read 0 50 = 50; read 0 7 = 7",
            "send 1 = 0; part 1 0 1 2 = 157; stream 0 11 = 157; read 0 43 = 43; stream 0 12 = 0");
        Rows.run("1 a late BOUND takes nothing back",
            "shape 200 50 50 = 1; write 0 200 = 200; send 0 = 0; come 0 = 1; read 0 25 = 25; send 1 = 0",
            "read 0 25 = 25; send 1 = 1; part 1 0 1 2 = 75; part 1 1 0 2 = 100; come 1 = 1; stream 0 6 = 100",
            "side 0 13 = 100; come 0 = 1; stream 0 6 = 100; side 0 13 = 100");
    }

    private static void move() {
        String[] rows = new String[53];
        for (int i = 1; i <= 50; i++) {
            rows[i - 1] = "move = " + i;
        }
        rows[50] = "move = -4; told 2 = 50; told 3 = 0";
        rows[51] = "write 0 1 = 1; write 1 1 = 1; send 0 = 0; send 1 = 0";
        rows[52] = "packet 0 0 1 = 50; packet 1 0 1 = 0";
        Rows.run("7", rows);
    }
}
