/**
 * Every argument of every call: the smallest and the largest int, what is taken at either edge, what is refused just
 * below and just above it; and of several reasons the first that fits.
 */
public final class ArgumentsTest {
    /** Three PACKETS under way: 0 and 1 of SIDE 0, with 42 bytes of STREAM 0 each, then 0 of SIDE 1. */
    private static final String THREE =
        "shape 60 1000 4000 = 1; write 0 84 = 84; write 1 42 = 42; send 0 x2 = 0 1; send 1 = 0";

    private ArgumentsTest() {
    }

    public static void main(String[] args) {
        shape();
        write();
        endAndCut();
        read();
        send();
        placesUnderWay();
        tick();
        streamAndState();
        side();
        packet();
        part();
        net();
        told();
        reasons();
        reasonsOfSend();
        Rows.close();
    }

    /** The call with each value in the place of "#", on a new object behind the row before; values as "5 = due". */
    private static void edges(String before, String call, String... values) {
        for (String value : values) {
            String[] both = value.split(" = ");
            String row = call.replace("#", both[0]) + " = " + both[1];
            Rows.run("an argument: " + row, before.isEmpty() ? "told 0 = 0" : before, row);
        }
    }

    private static void shape() {
        edges("", "shape # 50 50", "MIN = -2", "-1 = -2", "0 = -2", "59 = -2", "60 = 1", "61 = 1", "999 = 1",
            "1000 = 1", "1001 = -2", "MAX = -2");
        edges("", "shape 60 # 50", "MIN = -2", "-1 = -2", "0 = -2", "49 = -2", "50 = 1", "51 = 1", "999 = 1",
            "1000 = 1", "1001 = -2", "MAX = -2");
        edges("", "shape 60 50 #", "MIN = -2", "-1 = -2", "0 = -2", "49 = -2", "50 = 1", "51 = 1", "3999 = 1",
            "4000 = 1", "4001 = -2", "MAX = -2");
    }

    private static void write() {
        edges("", "write # 5", "MIN = -1", "-1 = -1", "0 = 5", "1 = 5", "6 = 5", "7 = 5", "8 = -1", "MAX = -1");
        edges("", "write 0 #", "MIN = -2", "-1 = -2", "0 = -2", "1 = 1", "2 = 2", "999 = 999", "1000 = 1000",
            "1001 = -2", "MAX = -2");
        edges("write 7 1 = 1", "write 7 #", "998 = 999", "999 = 1000", "1000 = -4", "1001 = -2", "MAX = -2");
        edges("write 0 999 = 999", "write 0 #", "0 = -2", "1 = 1000", "2 = -4", "1000 = -4", "MAX = -2");
        edges("write 0 1000 = 1000", "write 0 #", "MIN = -2", "0 = -2", "1 = -4", "1000 = -4", "1001 = -2");
    }

    private static void endAndCut() {
        edges("", "end #", "MIN = -1", "-1 = -1", "0 = 1", "1 = 1", "6 = 1", "7 = 1", "8 = -1", "MAX = -1");
        edges("", "cut #", "MIN = -1", "-1 = -1", "0 = 1", "1 = 1", "6 = 1", "7 = 1", "8 = -1", "MAX = -1");
    }

    private static void read() {
        edges("", "read # 1", "MIN = -1", "-1 = -1", "0 = 0", "1 = 0", "6 = 0", "7 = 0", "8 = -1", "MAX = -1");
        edges(THREE + "; come 0 = 1", "read 0 #", "MIN = -2", "-1 = -2", "0 = -2", "1 = 1", "2 = 2", "41 = 41",
            "42 = 42", "43 = 42", "999 = 42", "1000 = 42", "1001 = -2", "MAX = -2");
        edges("shape 1000 1000 4000 = 1; write 0 1000 = 1000; send 0 x2 = 0 1; come 0 x2 = 1", "read 0 #",
            "999 = 999", "1000 = 1000", "1001 = -2");
    }

    private static void send() {
        edges("write 0 1 = 1; write 1 1 = 1", "send #", "MIN = -1", "-1 = -1", "0 = 0", "1 = 0", "2 = -1", "MAX = -1");
    }

    private static void placesUnderWay() {
        for (String call : new String[] {"come", "drop", "twice"}) {
            edges("", call + " #", "MIN = -1", "-1 = -1", "0 = -1", "1 = -1", "399 = -1", "400 = -1", "MAX = -1");
        }
        edges(THREE, "come #", "MIN = -1", "-1 = -1", "0 = 1", "1 = 1", "2 = 1", "3 = -1", "400 = -1", "MAX = -1");
        edges(THREE, "drop #", "MIN = -1", "-1 = -1", "0 = 2", "1 = 2", "2 = 2", "3 = -1", "400 = -1", "MAX = -1");
        edges(THREE, "twice #", "MIN = -1", "-1 = -1", "0 = 4", "1 = 4", "2 = 4", "3 = -1", "400 = -1", "MAX = -1");
        String full = "write 0 1 = 1; send 0 = 0; twice 0 x399 = " + Rows.numbers(2, 400);
        edges(full, "come #", "-1 = -1", "0 = 1", "398 = 1", "399 = 1", "400 = -1", "401 = -1");
        edges(full, "drop #", "-1 = -1", "0 = 399", "398 = 399", "399 = 399", "400 = -1", "401 = -1");
        edges(full, "twice #", "-1 = -1", "0 = -4", "399 = -4", "400 = -1", "401 = -1");
        edges(full, "net # 1", "-1 = -1", "0 = 0", "399 = 0", "400 = -1", "401 = -1");
    }

    private static void tick() {
        edges("", "tick #", "MIN = -2", "-1 = -2", "0 = -2", "1 = 1", "2 = 2", "999 = 999", "1000 = 1000",
            "1001 = -2", "MAX = -2");
    }

    private static void streamAndState() {
        edges(THREE, "stream # 0", "MIN = -1", "-1 = -1", "0 = 84", "1 = 42", "2 = 0", "7 = 0", "8 = -1", "MAX = -1");
        edges(THREE, "stream 0 #", "MIN = -2", "-1 = -2", "0 = 84", "1 = 0", "13 = -6", "14 = 0", "15 = -2",
            "MAX = -2");
        edges(THREE, "state # 0", "MIN = -1", "-1 = -1", "0 = 1", "1 = 1", "2 = 0", "7 = 0", "8 = -1", "MAX = -1");
        edges(THREE, "state 0 #", "MIN = -1", "-1 = -1", "0 = 1", "1 = 1", "83 = 1", "84 = 0", "998 = 0", "999 = 0",
            "1000 = -1", "1001 = -1", "MAX = -1");
    }

    private static void side() {
        edges(THREE, "side # 0", "MIN = -1", "-1 = -1", "0 = 2", "1 = 1", "2 = -1", "MAX = -1");
        edges(THREE, "side 0 #", "MIN = -2", "-1 = -2", "0 = 2", "1 = 120", "15 = 0", "16 = 4000", "17 = -2",
            "MAX = -2");
    }

    private static void packet() {
        edges(THREE, "packet # 0 2", "MIN = -1", "-1 = -1", "0 = 60", "1 = 60", "2 = -1", "MAX = -1");
        edges(THREE, "packet 0 # 2", "MIN = -1", "-1 = -1", "0 = 60", "1 = 60", "2 = -1", "299 = -1", "300 = -1",
            "MAX = -1");
        edges(THREE, "packet 1 # 2", "-1 = -1", "0 = 60", "1 = -1");
        edges("", "packet 0 # 2", "-1 = -1", "0 = -1", "1 = -1");
        edges(THREE, "packet 0 1 #", "MIN = -2", "-1 = -2", "0 = 0", "1 = 0", "2 = 60", "6 = 0", "7 = 0", "8 = -2",
            "MAX = -2");
    }

    private static void part() {
        edges(THREE, "part # 0 0 0", "MIN = -1", "-1 = -1", "0 = 4", "1 = 4", "2 = -1", "MAX = -1");
        edges(THREE, "part 0 # 0 2", "MIN = -1", "-1 = -1", "0 = 0", "1 = 42", "2 = -1", "300 = -1", "MAX = -1");
        edges(THREE, "part 1 # 0 3", "-1 = -1", "0 = 42", "1 = -1");
        edges(THREE, "part 0 1 # 3", "MIN = -1", "-1 = -1", "0 = 42", "1 = -1", "2 = -1", "16 = -1", "MAX = -1");
        edges("write 0 1 = 1; write 2 2 = 2; send 0 = 0", "part 0 0 # 3", "-1 = -1", "0 = 1", "1 = 2", "2 = -1");
        edges(THREE, "part 0 1 0 #", "MIN = -2", "-1 = -2", "0 = 4", "1 = 0", "2 = 42", "3 = 42", "4 = -6", "10 = -6",
            "11 = -6", "12 = -2", "MAX = -2");
    }

    private static void net() {
        edges("", "net # 0", "MIN = -1", "-1 = -1", "0 = -1", "MAX = -1");
        edges(THREE, "net # 0", "MIN = -1", "-1 = -1", "0 = 0", "1 = 0", "2 = 1", "3 = -1", "400 = -1", "MAX = -1");
        edges(THREE, "net # 1", "0 = 0", "1 = 1", "2 = 0");
        edges(THREE, "net 1 #", "MIN = -2", "-1 = -2", "0 = 0", "1 = 1", "2 = -2", "MAX = -2");
    }

    private static void told() {
        edges(THREE, "told #", "MIN = -2", "-1 = -2", "0 = 0", "1 = 3", "6 = 0", "7 = 0", "8 = -2", "MAX = -2");
    }

    private static void reasons() {
        Rows.run("2 OUTSIDE ahead of STATE", "write 0 1 = 1; shape 59 50 50 = -2; shape 60 1001 50 = -2",
            "shape 60 50 4001 = -2; shape 60 50 50 = -3");
        Rows.run("3 UNKNOWN ahead of OUTSIDE", "write 8 0 = -1; write -1 1001 = -1; write MIN MIN = -1",
            "write MAX MAX = -1");
        Rows.run("3 OUTSIDE ahead of STATE", "end 0 = 1; cut 1 = 1; write 0 0 = -2; write 0 1001 = -2; write 1 0 = -2",
            "write 1 1001 = -2; write 0 1 = -3; write 1 1 = -3");
        Rows.run("3 OUTSIDE ahead of FULL", "write 0 1000 = 1000; write 0 0 = -2; write 0 1001 = -2; write 0 1 = -4");
        Rows.run("3 STATE ahead of FULL, ENDED", "write 0 1000 = 1000; write 0 1 = -4; end 0 = 1; write 0 1 = -3",
            "write 0 1000 = -3; write 0 1001 = -2");
        Rows.run("3 STATE ahead of FULL, CUT OFF", "write 1 1000 = 1000; write 1 1 = -4; cut 1 = 1; write 1 1 = -3",
            "write 1 1000 = -3");
        Rows.run("6 UNKNOWN ahead of OUTSIDE", "read 8 0 = -1; read -1 1001 = -1; read MIN MAX = -1; read 0 0 = -2");
        Rows.run("13 UNKNOWN ahead of OUTSIDE", "stream 8 15 = -1; stream -1 -1 = -1; stream MAX MIN = -1");
        Rows.run("14 UNKNOWN for STREAM and place", "state 8 1000 = -1; state -1 0 = -1; state 0 -1 = -1");
        Rows.run("15 UNKNOWN ahead of OUTSIDE", "side 2 17 = -1; side -1 -1 = -1; side MIN MAX = -1");
        Rows.run("16 UNKNOWN ahead of OUTSIDE", THREE, "packet 2 0 8 = -1; packet 0 2 8 = -1; packet 0 -1 -1 = -1",
            "packet -1 0 8 = -1; packet 0 0 8 = -2");
        Rows.run("17 UNKNOWN ahead of OUTSIDE", THREE, "part 2 0 0 12 = -1; part -1 0 0 12 = -1; part 0 2 0 12 = -1",
            "part 0 0 1 12 = -1; part 0 0 -1 -1 = -1; part 0 0 0 12 = -2");
        Rows.run("18 UNKNOWN ahead of OUTSIDE", THREE, "net 3 2 = -1; net -1 -1 = -1; net 0 2 = -2");
    }

    private static void reasonsOfSend() {
        Rows.run("8 UNKNOWN ahead of FULL and of NO; FULL ahead of NO: 400 under way",
            "send 2 = -1; send -1 = -1; write 0 1 = 1; send 0 = 0; send 0 = -5; twice 0 x399 = " + Rows.numbers(2, 400),
            "send 0 = -4; send 1 = -4; send 2 = -1; send -1 = -1; write 1 5 = 5; send 1 = -4; drop 0 = 399",
            "send 0 = -5; send 1 = 0; send 1 = -4");
        Rows.run("8 FULL ahead of NO: a PATH that is TRIED",
            "shape 60 1000 4000 = 1; move = 1; write 0 1 = 1; send 0 = 0; come 0 = 1; send 1 = -5; write 0 1 = 2",
            "send 0 = 1; twice 0 x399 = " + Rows.numbers(2, 400), "send 1 = -4; drop 0 = 399; send 1 = -5");
        Rows.run("11 UNKNOWN ahead of FULL", "write 0 1 = 1; send 0 = 0; twice 0 x399 = " + Rows.numbers(2, 400),
            "twice 400 = -1; twice -1 = -1; twice 399 = -4; told 1 = 400");
    }
}
