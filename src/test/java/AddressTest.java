/** Section 3: the ADDRESS that changes, and is tried before it is trusted. */
public final class AddressTest {
    private AddressTest() {
    }

    public static void main(String[] args) {
        strays();
        newPath();
        tried();
        lost();
        Rows.close();
    }

    private static void strays() {
        Rows.run("9 STRAY is nothing",
            "write 1 5 = 5; send 1 = 0; twice 0 = 2; twice 0 = 3; come 0 = 1; side 0 12 = 1; send 0 = 0",
            "side 0 12 = 0; move = 1; come 0 = 2; told 7 = 1; side 0 12 = 0; told 1 = 2; come 0 = 2; told 7 = 2",
            "stream 1 8 = 5; come 0 = 1; side 1 1 = 0; told 7 = 2");
        Rows.run("9 STRAY did not come",
            "write 1 5 = 5; send 1 = 0; move = 1; come 0 = 2; packet 1 0 7 = 0; stream 1 8 = 0; side 0 11 = -6",
            "side 0 12 = 0; send 0 = -5; told 1 = 0; told 7 = 1");
        Rows.run("9 what SIDE 0 sent is never STRAY",
            "write 0 5 = 5; send 0 = 0; move = 1; come 0 = 1; told 7 = 0; told 3 = 0; told 4 = 0; stream 0 8 = 5");
    }

    private static void newPath() {
        Rows.run("9 the PATH follows the highest HEAVY one",
            "write 0 500 = 500; send 0 = 0; move = 1; send 0 = 1; come 1 = 1; told 3 = 1; told 4 = 1; told 5 = 136",
            "told 6 = 0; come 0 = 1; told 3 = 1; told 5 = 136; stream 0 9 = 300");
        Rows.run("9 not one that came below",
            "shape 60 1000 4000 = 1; write 0 84 = 84; send 0 = 0; move = 1; send 0 = 1; write 0 42 = 126",
            "send 0 = 2; come 2 = 1; told 3 = 1; told 5 = 60; come 1 = 1; told 5 = 120; come 0 = 1; told 3 = 1",
            "told 5 = 120; told 4 = 1");
        Rows.run("9 not one that is not HEAVY",
            "tick 2 = 2; write 1 5 = 5; send 1 = 0; come 0 = 1; move = 1; send 0 = 0; packet 0 0 1 = 1",
            "packet 0 0 4 = 0; come 0 = 1; told 3 = 0; told 4 = 0; told 5 = 0; side 1 5 = 0; side 1 11 = 0",
            "side 1 2 = 2023");
        Rows.run("9 what SIDE 1 measured is none",
            "tick 2 = 2; write 1 5 = 5; send 1 = 0; come 0 = 1; send 0 = 0; come 0 = 1; side 1 2 = 2023",
            "side 1 4 = -1; side 1 5 = 0; move = 1; tick 1 = 3; write 0 5 = 5; send 0 = 1; come 0 = 1; told 3 = 1",
            "told 4 = 1; told 5 = 23; told 6 = 0; side 1 2 = 2000; side 1 3 = 1000000; side 1 4 = 3; side 1 5 = -6",
            "side 1 6 = -6; side 1 7 = -6; side 0 2 = 2000; side 0 4 = -1");
        Rows.run("9 a fallen OPEN and BRIM start over",
            "shape 60 1000 4000 = 1; write 1 168 = 168; send 1 x4 = 0 1 2 3; come 3 = 1; send 0 = 0; come 3 = 1",
            "side 1 2 = 330; side 1 3 = 330; side 1 4 = 0; side 1 1 = 120; move = 1; write 0 5 = 5; send 0 = 1",
            "come 3 = 1; side 1 2 = 600; side 1 3 = 1000000; side 1 4 = 0; side 1 1 = 120");
        Rows.run("9 the PATH changes ahead of what the parts do",
            "write 1 5 = 5; tick 1 = 1; send 1 = 0; come 0 = 1; move = 1; tick 4 = 5; write 0 5 = 5; send 0 = 0",
            "part 0 0 0 0 = 1; come 0 = 1; told 4 = 1; side 1 5 = 4; side 1 6 = 32; side 1 4 = 5; side 1 2 = 2000",
            "side 1 1 = 0; told 5 = 29");
        Rows.run("9 a second move",
            "write 0 5 = 5; move = 1; send 0 = 0; come 0 = 1; told 5 = 23; write 0 90 = 95; send 0 = 1; come 0 = 1",
            "told 5 = 131; send 1 = 0; told 6 = 25; move = 2; come 0 = 2; write 0 5 = 100; send 0 = 2; come 0 = 1",
            "told 3 = 2; told 4 = 1; told 5 = 23; told 6 = 0; send 1 = -5; write 0 90 = 190; send 0 = 3; come 0 = 1",
            "send 1 = 1; packet 1 1 1 = 2; part 1 1 1 0 = 6; part 1 1 1 2 = 2; packet 1 0 1 = 1");
    }

    private static void tried() {
        Rows.run("8 SENT and ROOM against 3 GOT",
            "shape 60 1000 4000 = 1; move = 1; write 0 2 = 2; send 0 = 0; come 0 = 1; told 5 = 20; send 1 = 0",
            "packet 1 0 2 = 25; packet 1 0 3 = 2; part 1 0 0 0 = 1; part 1 0 1 0 = 6; part 1 0 1 1 = 0",
            "part 1 0 1 2 = 1; part 1 0 1 3 = 0; told 6 = 25; write 1 5 = 5; send 1 = -5; write 0 2 = 4; send 0 = 1",
            "come 1 = 1; told 5 = 40; send 1 = 1; told 6 = 54; send 0 = -5; write 0 2 = 6; send 0 = 2; come 2 = 1",
            "told 5 = 60; send 1 = 2; packet 1 2 4 = 0; told 6 = 70");
        Rows.run("8 one weight less",
            "shape 60 1000 4000 = 1; move = 1; write 0 1 = 1; send 0 = 0; come 0 = 1; told 5 = 19; send 1 = -5",
            "side 1 12 = 1; told 6 = 0");
        Rows.run("8 a PROBE does not help",
            "shape 60 1000 4000 = 1; write 1 5 = 5; send 1 = 0; move = 1; write 0 1 = 1; send 0 = 0; come 1 = 1",
            "tick 8 = 8; side 1 9 = 1; send 1 = -5; side 1 9 = 1; told 4 = 1");
        Rows.run("3 ASK, ANSWER, trust",
            "write 0 100 = 100; move = 1; send 0 = 0; come 0 = 1; told 5 = 118; send 1 = 0; told 6 = 25",
            "packet 1 0 4 = 1; come 0 = 1; write 0 5 = 105; write 1 5 = 5; send 0 = 1; packet 0 1 3 = 3",
            "part 0 1 0 0 = 1; part 0 1 1 0 = 7; part 0 1 1 1 = 0; part 0 1 1 2 = 1; part 0 1 1 3 = 0",
            "part 0 1 2 0 = 4; packet 0 1 2 = 38; come 0 = 1; told 4 = 0; told 5 = 156; told 3 = 1; told 6 = 25",
            "send 1 = 1; told 6 = 25; write 0 5 = 110; send 0 = 2; come 1 = 1; told 5 = 156; send 1 = 2",
            "packet 1 2 1 = 1; told 6 = 25");
        Rows.run("3 an ANSWER of an old PATH",
            "write 0 100 = 100; move = 1; send 0 = 0; come 0 = 1; send 1 = 0; come 0 = 1; move = 2",
            "write 0 90 = 190; send 0 = 1; part 0 1 1 0 = 7; part 0 1 1 2 = 1; come 0 = 1; told 3 = 2; told 4 = 1",
            "send 1 = 1; part 1 1 1 0 = 6; part 1 1 1 2 = 2; come 0 = 1; send 0 = 2; part 0 2 1 2 = 2; come 0 = 1",
            "told 4 = 0");
    }

    private static void lost() {
        Rows.run("12 ASK that is LOST",
            "shape 60 1000 4000 = 1; move = 1; write 0 42 = 42; send 0 = 0; come 0 = 1; told 5 = 60; send 1 = 0",
            "drop 0 = 0; write 1 1 = 1; send 1 = 1; drop 0 = 0; write 1 1 = 2; send 1 = 2; drop 0 = 0",
            "write 1 1 = 3; send 1 = 3; told 6 = 82; come 0 = 1; send 0 = 1; come 0 = 1; told 5 = 76",
            "packet 1 0 6 = 1; send 1 = 4; packet 1 4 3 = 1; part 1 4 0 0 = 6; part 1 4 0 2 = 1; told 6 = 101");
        Rows.run("12 but of a PATH that is TRIED",
            "shape 60 1000 4000 = 1; move = 1; write 0 42 = 42; send 0 = 0; come 0 = 1; send 1 = 0; write 1 1 = 1",
            "send 1 = 1; drop 1 = 1; write 1 1 = 2; send 1 = 2; drop 1 = 1; write 1 1 = 3; send 1 = 3; come 1 = 1",
            "send 0 = 1; come 1 = 1; packet 1 0 6 = 1; send 1 = 4; drop 1 = 1; part 1 4 0 0 = 6; come 0 = 1",
            "send 0 = 2; part 0 2 1 0 = 7; come 0 = 1; told 4 = 0; packet 1 0 5 = 1; write 1 1 = 4; send 1 = 5",
            "drop 0 = 0; write 1 1 = 5; send 1 = 6; drop 0 = 0; write 1 1 = 6; send 1 = 7; come 0 = 1; send 0 = 3",
            "come 0 = 1; packet 1 4 6 = 1; send 1 = 8; packet 1 8 3 = 1; part 1 8 0 0 = 4; part 1 8 0 2 = 0",
            "part 1 8 0 3 = 2; send 1 = -5");
        Rows.run("12 ASK of an old PATH",
            "shape 60 1000 4000 = 1; move = 1; write 0 42 = 42; send 0 = 0; come 0 = 1; send 1 = 0; drop 0 = 0",
            "move = 2; write 0 42 = 84; send 0 = 1; come 0 = 1; told 3 = 2; write 1 1 = 1; send 1 = 1",
            "part 1 1 1 0 = 6; part 1 1 1 2 = 2; come 0 = 1; write 1 1 = 2; send 1 = 2; drop 0 = 0; write 1 1 = 3",
            "send 1 = 3; come 0 = 1; send 0 = 2; packet 0 2 3 = 2; come 0 = 1; packet 1 0 6 = 1; told 4 = 0",
            "send 1 = 4; packet 1 4 3 = 1; part 1 4 0 0 = 1");
        Rows.run("12 the ASK of a new PATH stays OWED",
            "shape 60 1000 4000 = 1; move = 1; write 0 42 = 42; send 0 = 0; come 0 = 1; send 1 = 0; drop 0 = 0",
            "write 1 1 = 1; send 1 = 1; drop 0 = 0; write 1 1 = 2; send 1 = 2; drop 0 = 0; write 1 1 = 3",
            "send 1 = 3; come 0 = 1; move = 2; write 0 42 = 84; send 0 = 1; come 0 = 1; told 3 = 2",
            "packet 1 0 6 = 1; send 1 = 4; part 1 4 1 0 = 6; part 1 4 1 2 = 2");
        Rows.run("12 ANSWER that is LOST",
            "shape 60 1000 4000 = 1; move = 1; write 0 42 = 42; send 0 = 0; come 0 = 1; send 1 = 0; come 0 = 1",
            "send 0 = 1; part 0 1 1 0 = 7; drop 0 = 0; write 0 1 = 43; send 0 = 2; drop 0 = 0; write 0 1 = 44",
            "send 0 = 3; drop 0 = 0; write 0 1 = 45; send 0 = 4; come 0 = 1; told 4 = 1; send 1 = 1; come 0 = 1",
            "packet 0 1 6 = 1; send 0 = 5; part 0 5 0 0 = 7; part 0 5 0 2 = 1; come 0 = 1; told 4 = 0");
    }
}
