/** The edges that the document names of the ADDRESS that changes and is tried (section 3). */
public final class AddressEdgesTest {
    /** PATH 1 is TRIED at TIME 0: GOT is 60, SIDE 1 owes TOLD and ASK; nothing is under way. */
    private static final String TRIED = "shape 60 1000 4000 = 1; move = 1; write 0 42 = 42; send 0 = 0; come 0 = 1; "
            + "told 4 = 1;"
        + "told 5 = 60; ";
    /** Then ASK has come; the ANSWER of SIDE 0, its PACKET 1, is under way. */
    private static final String ASKED = TRIED + "send 1 = 0; come 0 = 1; send 0 = 1; part 0 1 1 0 = 7; "
            + "packet 0 1 1 = 1; ";

    private AddressEdgesTest() {
    }

    public static void main(String[] args) {
        strays();
        whichPath();
        whatStartsOver();
        got();
        mayItSend();
        ask();
        answer();
        Rows.close();
    }

    private static void strays() {
        Rows.run("3 for the ADDRESS that SIDE 0 has now", "write 1 5 = 5; send 1 = 0; packet 1 0 1 = 0; come 0 = 1",
            "told 7 = 0");
        Rows.run("3 for another: STRAY, nothing", "write 1 5 = 5; end 1 = 1; cut 3 = 1; send 1 = 0; move = 1",
            "come 0 = 2; told 7 = 1; stream 1 8 = 0; stream 1 13 = -6; stream 3 14 = 0; side 0 11 = -6; side 0 12 = 0",
            "packet 1 0 7 = 0; told 1 = 0; side 1 1 = 30");
        Rows.run("3 STRAY, though its number came before", "write 1 5 = 5; send 1 = 0; twice 0 = 2; come 0 = 1",
            "send 0 = 0; drop 1 = 1; side 0 12 = 0; move = 1; come 0 = 2; side 0 12 = 0; told 7 = 1; packet 1 0 7 = 1");
        Rows.run("3 STRAY before: its number did not come", "write 1 5 = 5; send 1 = 0; twice 0 = 2; move = 1",
            "come 0 = 2; come 0 = 2; told 7 = 2; packet 1 0 7 = 0");
        Rows.run("3 of another ADDRESS than SIDE 0 has now it still comes", "write 0 5 = 5; send 0 = 0; move = 1",
            "move = 2; come 0 = 1; stream 0 8 = 5; told 7 = 0; told 3 = 0; told 4 = 0; send 1 = 0; packet 1 0 1 = 0",
            "come 0 = 2; told 7 = 1");
        Rows.run("3 TOLD that is STRAY tells nothing", "write 0 5 = 5; send 0 = 0; come 0 = 1; send 1 = 0; move = 1",
            "come 0 = 2; packet 0 0 5 = 0; side 0 1 = 23; side 0 5 = -6; stream 0 4 = 0; side 0 10 = -6");
        Rows.run("10 what is DROPPED is not STRAY", "write 1 5 = 5; send 1 = 0; move = 1; twice 0 = 2; drop 0 = 1",
            "drop 0 = 0; told 7 = 0");
    }

    private static void whichPath() {
        Rows.run("3 from PATH: nothing is TRIED", "write 0 5 = 5; send 0 = 0; come 0 = 1; told 3 = 0; told 4 = 0",
            "told 5 = 0; told 6 = 0; send 1 = 0; packet 1 0 3 = 1; told 6 = 0");
        Rows.run("3 HEAVY, above all, from another", "move = 1; write 0 5 = 5; send 0 = 0; told 3 = 0; come 0 = 1",
            "told 3 = 1; told 4 = 1; told 5 = 23; told 2 = 1");
        Rows.run("3 from another than SIDE 0 has now", "move = 1; write 0 5 = 5; send 0 = 0; move = 2; come 0 = 1",
            "told 3 = 1; told 4 = 1; told 2 = 2; told 5 = 23");
        Rows.run("3 its number is below one that came",
            "move x5 = 1 2 3 4 5; write 0 5 = 5; send 0 = 0; move = 6; write 0 5 = 10; send 0 = 1; come 1 = 1",
            "told 3 = 6; told 5 = 23; come 0 = 1; told 3 = 6; told 5 = 23; told 4 = 1; stream 0 9 = 10; side 1 11 = 1");
        Rows.run("3 its number came before", "write 0 5 = 5; send 0 = 0; move = 1; twice 0 = 2; write 0 5 = 10",
            "send 0 = 1; come 2 = 1; told 3 = 1; come 0 = 1; come 0 = 0; told 3 = 1; told 5 = 23");
        Rows.run("3 not HEAVY, from another: PATH stays",
            "write 1 5 = 5; send 1 = 0; come 0 = 1; move = 1; send 0 = 0; packet 0 0 1 = 1; packet 0 0 4 = 0",
            "come 0 = 1; told 3 = 0; told 4 = 0; packet 1 0 5 = 1; write 0 5 = 5; send 0 = 1; come 0 = 1; told 3 = 1",
            "told 4 = 1; told 5 = 23");
        Rows.run("3 the next one from PATH does not start over", TRIED, "tick 2 = 2; write 0 5 = 47; send 0 = 1",
            "come 0 = 1; told 5 = 83; side 1 4 = 0; told 3 = 1; told 4 = 1");
        Rows.run("3 SIDE 1 has no PATH of its own to follow: what it sends changes none", "move = 1; write 1 5 = 5",
            "send 1 = 0; packet 1 0 1 = 0; come 0 = 2; told 3 = 0; told 4 = 0");
    }

    private static void whatStartsOver() {
        Rows.run("3 FALL is TIME, OPEN 10 ROOM, BRIM 1000000, of SIDE 1 alone",
            "shape 60 1000 4000 = 1; write 1 168 = 168; write 0 168 = 168; send 1 x4 = 0 1 2 3; send 0 x4 = 0 1 2 3",
            "come 3 = 1; come 6 = 1; send 0 = 4; send 1 = 4; come 6 = 1; come 6 = 1; side 0 2 = 330; side 1 2 = 330",
            "side 0 3 = 330; side 1 3 = 330; tick 7 = 7; move = 1; cut 0 = 1; send 0 = 5; come 6 = 1; told 3 = 1",
            "side 1 2 = 600; side 1 3 = 1000000; side 1 4 = 7; side 1 5 = -6; side 1 6 = -6; side 1 7 = -6",
            "side 0 2 = 330; side 0 3 = 330; side 0 4 = 0; side 0 5 = 0; side 0 6 = 0; side 0 7 = 0");
        Rows.run("3 FLIGHT, PROBES begun and a PROBE that is OWED stay",
            "write 1 5 = 5; send 1 = 0; drop 0 = 0; tick 16 = 16; side 1 8 = 2; move = 1; write 0 60 = 60; send 0 = 0",
            "come 0 = 1; told 4 = 1; side 1 8 = 2; side 1 9 = 1; side 1 1 = 23; side 1 4 = 16; side 1 10 = -6",
            "side 1 0 = 1");
        Rows.run("3 what SIDE 1 sent before does not grow OPEN: FALL is TIME, ahead of what the parts do",
            "write 1 5 = 5; tick 3 = 3; send 1 = 0; come 0 = 1; move = 1; cut 0 = 1; send 0 = 0; part 0 0 0 0 = 1",
            "come 0 = 1; packet 1 0 5 = 1; side 1 4 = 3; side 1 2 = 2000; side 1 5 = 0; side 1 6 = 0; side 1 1 = 0");
        Rows.run("3 what it sends at that TIME does not, what it sends later does",
            "move = 1; tick 3 = 3; write 0 90 = 90; send 0 = 0; come 0 = 1; side 1 4 = 3; send 1 = 0",
            "packet 1 0 2 = 25; come 0 = 1; send 0 = 1; come 0 = 1; told 4 = 0; packet 1 0 5 = 1; side 1 2 = 2000",
            "tick 1 = 4; write 1 5 = 5; send 1 = 1; come 0 = 1; send 0 = 2; come 0 = 1; packet 1 1 5 = 1",
            "packet 1 1 2 = 29; side 1 2 = 2029");
        Rows.run("3 of a second PATH GOT and SENT are 0 again", TRIED, "send 1 = 0; told 6 = 25; move = 2",
            "write 0 1 = 43; send 0 = 1; packet 0 1 2 = 19; come 1 = 1; told 3 = 2; told 5 = 19; told 6 = 0",
            "told 4 = 1");
        Rows.run("3 a PATH that is trusted, then another", ASKED, "come 0 = 1; told 4 = 0; told 5 = 85; told 6 = 25",
            "move = 2; cut 0 = 1; send 0 = 2; packet 0 2 2 = 17; told 4 = 0; come 0 = 1; told 4 = 1; told 3 = 2",
            "told 5 = 17; told 6 = 0; send 1 = -5");
    }

    private static void got() {
        Rows.run("3 GOT: HEAVY ones from PATH", TRIED, "write 0 5 = 47; send 0 = 1; come 0 = 1; told 5 = 83");
        Rows.run("3 GOT: those that are not HEAVY, too", ASKED, "drop 0 = 0; write 1 5 = 5; send 1 = 1; come 0 = 1",
            "send 0 = 2; packet 0 2 4 = 0; packet 0 2 1 = 1; come 0 = 1; told 5 = 76; told 4 = 1");
        Rows.run("3 GOT: none from another ADDRESS, though SIDE 0 has that now", ASKED,
            "drop 0 = 0; write 1 5 = 5; send 1 = 1; come 0 = 1; move = 2; send 0 = 2; packet 0 2 4 = 0",
            "packet 0 2 1 = 2; come 0 = 1; told 5 = 60; told 3 = 1; told 4 = 1; packet 1 1 5 = 1");
        Rows.run("3 GOT: none from the ADDRESS before", "write 0 5 = 5; send 0 = 0; move = 1; write 0 5 = 10",
            "send 0 = 1; come 1 = 1; told 5 = 23; come 0 = 1; told 5 = 23; stream 0 8 = 10");
        Rows.run("3 GOT: none that came before", "move = 1; write 0 5 = 5; send 0 = 0; twice 0 = 2; come 0 = 1",
            "come 0 = 0; told 5 = 23");
        Rows.run("3 GOT: the one whose ANSWER ends the trial, none behind it", ASKED, "come 0 = 1; told 4 = 0",
            "told 5 = 85; write 0 5 = 47; send 0 = 2; come 0 = 1; told 5 = 85");
        Rows.run("3 GOT: nothing of what SIDE 1 sends", TRIED, "send 1 = 0; told 5 = 60; come 0 = 1; told 5 = 60",
            "told 6 = 25");
        Rows.run("3 SENT: nothing of what SIDE 0 sends, nothing without a trial", "write 0 5 = 5; send 0 = 0",
            "come 0 = 1; send 1 = 0; told 6 = 0; move = 1; write 0 60 = 65; send 0 = 1; told 6 = 0; come 1 = 1",
            "told 4 = 1; send 0 = -5; told 6 = 0; send 1 = 1; told 6 = 25");
        Rows.run("3 SENT: those that are not HEAVY, too", TRIED, "send 1 = 0; told 6 = 25; write 0 1 = 43; send 0 = 1",
            "come 1 = 1; send 1 = 1; packet 1 1 4 = 0; packet 1 1 2 = 16; told 6 = 41");
        Rows.run("3 SENT: none that is sent behind the trial", ASKED, "come 0 = 1; told 4 = 0; told 6 = 25",
            "write 1 5 = 5; send 1 = 1; told 6 = 25");
    }

    private static void mayItSend() {
        // SENT and ROOM together against 3 GOT, GOT being 18 and the bytes WRITTEN.
        int[][] first = {{60, 1, 0}, {60, 2, 1}, {60, 3, 1}, {61, 2, 0}, {61, 3, 1}, {63, 2, 0}, {63, 3, 1}, {64, 3,
            0}};
        for (int[] c : first) {
            Rows.run("3 ROOM " + c[0] + " against 3 times " + (18 + c[1]), "shape " + c[0] + " 1000 4000 = 1; move = 1",
                "write 0 " + c[1] + " = " + c[1] + "; send 0 = 0; come 0 = 1; told 5 = " + (18 + c[1]),
                c[2] == 1 ? "send 1 = 0; told 6 = 25; side 1 12 = 0; side 1 0 = 1"
                    : "send 1 = -5; told 6 = 0; side 1 12 = 1; side 1 0 = 0");
        }
        int[][] second = {{61, 11, 1}, {62, 10, 0}, {62, 11, 1}, {62, 12, 1}, {63, 11, 0}, {63, 12, 1}};
        for (int[] c : second) {
            Rows.run("3 SENT 25 and ROOM " + c[0] + " against 3 times " + (18 + c[1]),
                "shape " + c[0] + " 1000 4000 = 1; move = 1",
                "write 0 " + c[1] + " = " + c[1] + "; send 0 = 0; come 0 = 1; told 5 = " + (18 + c[1]),
                "send 1 = 0; told 6 = 25; write 1 5 = 5",
                c[2] == 1 ? "send 1 = 1; told 6 = 48" : "send 1 = -5; told 6 = 25");
        }
        Rows.run("3 SIDE 0 sends what it will", "shape 60 1000 4000 = 1; move = 1; cut 0 = 1; send 0 = 0; come 0 = 1",
            "told 5 = 17; send 1 = -5; cut 2 = 1; send 0 = 1; cut 4 = 1; send 0 = 2; come 0 = 1; told 5 = 34",
            "send 1 = 0");
        Rows.run("3 without a trial SIDE 1 sends what it will", "shape 60 1000 4000 = 1; write 1 100 = 100",
            "send 1 x3 = 0 1 2; told 6 = 0; told 5 = 0");
        Rows.run("3 trusted, SIDE 1 sends what it will", ASKED, "come 0 = 1; told 4 = 0; write 1 420 = 420",
            "send 1 x8 = " + Rows.numbers(1, 8));
        Rows.run("3 TRIED, SIDE 1 stops", ASKED, "write 1 420 = 420; send 1 x2 = 1 2; told 6 = 145; send 1 = -5",
            "come 0 = 1; told 4 = 0; send 1 = 3");
    }

    private static void ask() {
        Rows.run("3 ASK is OWED once", TRIED, "send 1 = 0; part 1 0 1 0 = 6; part 1 0 1 1 = 0; part 1 0 1 2 = 1",
            "part 1 0 1 3 = 0; write 1 1 = 1; send 1 = 1; packet 1 1 3 = 1; part 1 1 0 0 = 4");
        Rows.run("3 its b is PATH, not what SIDE 0 has now", TRIED, "move = 2; send 1 = 0; part 1 0 1 0 = 6",
            "part 1 0 1 2 = 1; packet 1 0 1 = 1; come 0 = 2; told 7 = 1");
        String lost = "send 1 = 0; drop 0 = 0; write 1 1 = 1; send 1 = 1; drop 0 = 0; write 1 1 = 2; send 1 = 2; "
            + "drop 0 = 0; write 1 1 = 3; send 1 = 3;"
            + "come 0 = 1; ";
        Rows.run("2 ASK, LOST: b is PATH and that is TRIED, wherever SIDE 0 is", TRIED + lost,
            "move = 2; send 0 = 1; packet 0 1 4 = 0; come 0 = 1; packet 1 0 6 = 1; told 3 = 1; told 4 = 1; told 5 = 60",
            "told 6 = 82; send 1 = 4; part 1 4 0 0 = 6; part 1 4 0 2 = 1; packet 1 4 1 = 1; packet 1 4 2 = 19");
        Rows.run("2 ASK, LOST: PATH is another", TRIED + lost,
            "move = 2; write 0 42 = 84; send 0 = 1; drop 0 = 0; write 0 42 = 126; send 0 = 2; come 0 = 1; told 3 = 2",
            "send 1 = 4; part 1 4 1 0 = 6; part 1 4 1 2 = 2; come 0 = 1; send 0 = 3; part 0 3 1 0 = 7",
            "part 0 3 1 2 = 2; come 0 = 1; told 4 = 0; packet 1 0 6 = 1; packet 1 4 5 = 1; send 1 = 5",
            "part 1 5 1 0 = 4; packet 1 5 3 = 2");
        Rows.run("3 ASK that comes owes an ANSWER with its b", TRIED, "send 1 = 0; come 0 = 1; send 0 = 1",
            "packet 0 1 3 = 2; part 0 1 1 0 = 7; part 0 1 1 1 = 0; part 0 1 1 2 = 1; part 0 1 1 3 = 0; send 0 = -5");
        // ASK goes twice: the first comes late, when the second has been answered.
        String twice = TRIED + "send 1 = 0; write 1 1 = 1; send 1 = 1; write 1 1 = 2; send 1 = 2; write 1 1 = 3; "
            + "send 1 = 3; come 3 = 1; send 0 = 1;"
            + "come 3 = 1; packet 1 0 6 = 1; ";
        Rows.run("3 ASK that comes without a trial owes an ANSWER, too", twice,
            "send 1 = 4; packet 1 4 3 = 1; part 1 4 0 0 = 6; come 3 = 1; send 0 = 2; part 0 2 1 0 = 7; come 3 = 1",
            "told 4 = 0; come 0 = 1; packet 1 0 7 = 1; send 0 = 3; packet 0 3 3 = 2; part 0 3 1 0 = 7",
            "part 0 3 1 2 = 1");
        Rows.run("2 ASK that is OWED goes, though the trial is over", twice,
            "come 0 = 1; send 0 = 2; part 0 2 1 0 = 7; come 2 = 1; told 4 = 0; send 1 = 4; packet 1 4 3 = 2",
            "part 1 4 1 0 = 6; part 1 4 1 2 = 1; told 6 = 82");
        Rows.run("3 ASK that came before owes none", TRIED, "send 1 = 0; twice 0 = 2; come 0 = 1; send 0 = 1",
            "drop 1 = 1; come 0 = 0; send 0 = 2; packet 0 2 3 = 1; packet 0 2 4 = 0");
    }

    private static void answer() {
        Rows.run("3 ANSWER with b PATH", ASKED, "come 0 = 1; told 4 = 0; told 3 = 1; told 2 = 1");
        Rows.run("3 ANSWER with b PATH, though SIDE 0 has moved on", ASKED, "move = 2; come 0 = 1; told 4 = 0",
            "told 3 = 1; told 5 = 85");
        Rows.run("3 ANSWER with b below PATH", ASKED, "move = 2; write 0 42 = 84; send 0 = 2; come 1 = 1; told 3 = 2",
            "told 4 = 1; come 0 = 1; told 4 = 1; told 3 = 2; told 5 = 60");
        Rows.run("3 ANSWER from another ADDRESS makes that the PATH, ahead of what it does", TRIED, "send 1 = 0",
            "come 0 = 1; move = 2; send 0 = 1; part 0 1 1 0 = 7; part 0 1 1 2 = 1; come 0 = 1; told 3 = 2; told 4 = 1",
            "told 5 = 25");
        Rows.run("2 an ANSWER that is OWED does not keep PACKET 0 from being LOST",
            "shape 60 1000 4000 = 1; write 0 42 = 42; send 0 = 0; move = 1; write 0 42 = 84; send 0 = 1; drop 0 = 1",
            "tick 16 = 16; come 0 = 1; send 1 = 0; come 0 = 1; side 0 5 = 16; packet 0 0 6 = 0; tick 1 = 17",
            "packet 0 0 6 = 0; tick 1 = 18; packet 0 0 6 = 1; send 0 = 2; part 0 2 1 0 = 7; part 0 2 1 2 = 1");
        Rows.run("2 ANSWER, LOST: OWED with its b", ASKED, "drop 0 = 0; write 0 1 = 43; send 0 = 2; drop 0 = 0",
            "write 0 1 = 44; send 0 = 3; drop 0 = 0; write 0 1 = 45; send 0 = 4; come 0 = 1; send 1 = 1; come 0 = 1",
            "packet 0 1 6 = 1; told 4 = 1; send 0 = 5; part 0 5 0 0 = 7; part 0 5 0 2 = 1; come 0 = 1; told 4 = 0");
    }
}
