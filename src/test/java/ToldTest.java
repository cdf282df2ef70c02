/** Promises 13 to 19: stream, state, side, packet, part, net, told. */
public final class ToldTest {
    private ToldTest() {
    }

    public static void main(String[] args) {
        stream();
        state();
        side();
        packet();
        part();
        net();
        told();
        Rows.close();
    }

    private static void stream() {
        Rows.run("13 refused",
            "stream -1 0 = -1; stream 8 0 = -1; stream 8 15 = -1; stream 0 -1 = -2; stream 0 15 = -2",
            "stream 7 2147483647 = -2; stream 7 -2147483648 = -2");
        Rows.run("13 sender and receiver",
            "shape 60 100 4000 = 1; write 0 120 = 120; end 0 = 1; send 0 x3 = 0 1 2; come 1 = 1; stream 0 0 = 120",
            "stream 0 1 = 1; stream 0 2 = 0; stream 0 3 = 100; stream 0 4 = 0; stream 0 5 = 0; stream 0 6 = 100",
            "stream 0 7 = 0; stream 0 8 = 42; stream 0 9 = 0; stream 0 10 = 0; stream 0 11 = 100; stream 0 12 = 0",
            "stream 0 13 = -6; stream 0 14 = 0; come 0 = 1; stream 0 8 = 84; stream 0 9 = 84; read 0 50 = 50",
            "stream 0 10 = 50; stream 0 12 = 1; send 1 = 0; stream 0 11 = 150; stream 0 12 = 0; come 1 = 1",
            "stream 0 6 = 150; stream 0 4 = 84; send 0 = 3; stream 0 3 = 120; stream 0 13 = -6; come 1 = 1",
            "stream 0 13 = 120; stream 0 9 = 84; stream 0 8 = 104; come 0 = 1; stream 0 9 = 120; stream 0 7 = 0",
            "send 1 = 1; come 0 = 1; stream 0 7 = 1; stream 0 4 = 120; cut 0 = 1; send 0 = 4; stream 0 2 = 1",
            "stream 0 14 = 0; come 0 = 1; stream 0 14 = 1; stream 2 14 = 0; stream 2 0 = 0");
    }

    private static void state() {
        Rows.run("14 refused",
            "state -1 0 = -1; state 8 0 = -1; state 0 -1 = -1; state 0 1000 = -1; state 0 2147483647 = -1",
            "state 0 999 = 0");
        Rows.run("14",
            "shape 60 1000 4000 = 1; write 0 1000 = 1000; send 0 x5 = 0 1 2 3 4; state 0 209 = 1; state 0 210 = 0",
            "come 4 = 1; state 0 209 = 5; state 0 168 = 5; state 0 167 = 1; send 1 = 0; come 4 = 1; state 0 209 = 7",
            "state 0 0 = 2; state 0 83 = 2; state 0 84 = 1; come 0 = 1; state 0 0 = 6; state 0 41 = 6",
            "state 0 42 = 2; send 0 = 5; state 0 0 = 5; state 0 41 = 5; state 2 0 = 0");
    }

    private static void side() {
        Rows.run("15 refused",
            "side -1 0 = -1; side 2 0 = -1; side 2 17 = -1; side 0 -1 = -2; side 0 17 = -2; side 1 16 = 600");
        Rows.run("15",
            "shape 60 100 150 = 1; write 0 100 = 100; write 2 60 = 60; send 0 x3 = 0 1 2; tick 2 = 2; come 2 = 1",
            "side 0 0 = 3; side 0 1 = 180; side 1 0 = 0; side 0 14 = 126; side 0 13 = 150; side 1 11 = 2",
            "side 0 11 = -6; side 1 12 = 1; side 0 12 = 0; send 1 = 0; side 1 12 = 0; come 2 = 1; side 0 10 = 2",
            "side 1 10 = -6; side 0 5 = 2; side 0 6 = 16; side 0 7 = 8; side 0 1 = 0; side 0 4 = 2; side 0 2 = 330",
            "side 0 3 = 330; side 1 2 = 600; side 0 8 = 0; side 0 9 = 0; come 0 = 1; come 0 = 1; read 0 80 = 80",
            "side 1 15 = 1; side 1 16 = 150; send 1 = 1; side 1 15 = 0; side 1 16 = 230; side 0 13 = 150",
            "come 0 = 1; side 0 13 = 230");
    }

    private static void packet() {
        Rows.run("16 refused",
            "packet 0 0 0 = -1; write 0 5 = 5; send 0 = 0; packet 0 1 0 = -1; packet 0 -1 0 = -1; packet 1 0 0 = -1",
            "packet 2 0 0 = -1; packet -1 0 0 = -1; packet 0 0 8 = -2; packet 0 0 -1 = -2; packet 0 1 8 = -1",
            "packet 0 300 0 = -1; packet 0 2147483647 0 = -1");
        Rows.run("16",
            "move = 1; move = 2; tick 6 = 6; write 0 5 = 5; cut 2 = 1; send 0 = 0; tick 1 = 7; packet 0 0 0 = 6",
            "packet 0 0 1 = 2; packet 0 0 2 = 30; packet 0 0 3 = 2; packet 0 0 4 = 1; packet 0 0 5 = 0",
            "packet 0 0 6 = 0; packet 0 0 7 = 0; come 0 = 1; packet 0 0 7 = 1; packet 0 0 5 = 0; write 0 200 = 205",
            "send 0 = 1; come 0 = 1; send 1 = 0; packet 1 0 0 = 7; packet 1 0 1 = 2; come 0 = 1; packet 0 0 5 = 1",
            "packet 0 1 5 = 1");
        Rows.run("16 TOLD of, though not HEAVY",
            "write 0 5 = 5; send 0 = 0; come 0 = 1; send 1 = 0; come 0 = 1; packet 1 0 4 = 0; write 1 5 = 5",
            "send 1 = 1; come 0 = 1; send 0 = 1; packet 1 0 5 = 0; come 0 = 1; packet 1 0 5 = 1; side 1 5 = 0");
    }

    private static void part() {
        Rows.run("17 refused",
            "part 0 0 0 0 = -1; write 0 5 = 5; send 0 = 0; part 0 0 1 0 = -1; part 0 0 -1 0 = -1; part 0 1 0 0 = -1",
            "part 2 0 0 0 = -1; part -1 0 0 0 = -1; part 0 0 0 12 = -2; part 0 0 0 -1 = -2; part 0 0 1 12 = -1",
            "part 0 0 2147483647 0 = -1; part 0 0 1073741824 0 = -1; part 0 0 0 2147483647 = -2");
        Rows.run("17 no spans but of TOLD",
            "write 0 5 = 5; send 0 = 0; part 0 0 0 0 = 4; part 0 0 0 1 = 0; part 0 0 0 2 = 0; part 0 0 0 3 = 5",
            "part 0 0 0 4 = -6; part 0 0 0 11 = -6; come 0 = 1; write 1 9 = 9; send 1 = 0; part 1 0 0 0 = 1",
            "part 1 0 0 1 = 0; part 1 0 0 2 = 0; part 1 0 0 3 = 1; part 1 0 0 4 = 0; part 1 0 0 5 = 0",
            "part 1 0 0 6 = -6; part 1 0 0 7 = -6; part 1 0 0 11 = -6; part 1 0 1 0 = 4; part 1 0 1 1 = 1",
            "part 1 0 1 4 = -6");
        Rows.run("17 spans of several numbers",
            "shape 60 1000 4000 = 1; write 0 400 = 400; send 0 x8 = 0 1 2 3 4 5 6 7; come 1 = 1; come 1 = 1",
            "come 1 = 1; come 2 = 1; come 2 = 1; send 1 = 0; packet 1 0 2 = 20; part 1 0 0 3 = 2; part 1 0 0 4 = 5",
            "part 1 0 0 5 = 6; part 1 0 0 6 = 1; part 1 0 0 7 = 3; part 1 0 0 8 = -6; part 1 0 0 9 = -6");
        Rows.run("17 the numbers that a kind does not have are 0",
            "cut 2 = 1; send 0 = 0; part 0 0 0 0 = 5; part 0 0 0 1 = 2; part 0 0 0 2 = 0; part 0 0 0 3 = 0",
            "tick 8 = 8; send 0 = 1; part 0 1 0 0 = 8; part 0 1 0 1 = 0; part 0 1 0 2 = 0; part 0 1 0 3 = 0",
            "part 0 1 0 5 = -6");
    }

    private static void net() {
        Rows.run("18",
            "net 0 0 = -1; net -1 0 = -1; write 1 5 = 5; write 0 5 = 5; send 1 = 0; send 0 = 0; write 1 5 = 10",
            "send 1 = 1; net 0 0 = 1; net 0 1 = 0; net 1 0 = 0; net 1 1 = 0; net 2 0 = 1; net 2 1 = 1; net 3 0 = -1",
            "net 0 2 = -2; net 0 -1 = -2; net 3 2 = -1; net 400 0 = -1; come 0 = 1; net 0 0 = 0; net 1 1 = 1",
            "net 2 0 = -1");
    }

    private static void told() {
        Rows.run("19",
            "told -1 = -2; told 8 = -2; told 2147483647 = -2; told -2147483648 = -2; told 7 = 0; tick 5 = 5",
            "told 0 = 5; move = 1; told 2 = 1; told 3 = 0; write 0 90 = 90; send 0 = 0; told 1 = 1; come 0 = 1",
            "told 1 = 0; told 3 = 1; told 4 = 1; told 5 = 108; told 6 = 0; send 1 = 0; told 6 = 25; move = 2",
            "come 0 = 2; told 7 = 1; told 2 = 2");
    }
}
