/** The edges that the document names of what is TOLD of, measured, LOST and probed for, and of promise 12. */
public final class LossEdgesTest {
    private static final String SMALL = "shape 60 1000 4000 = 1; ";

    /** OPEN and BRIM 330, FALL 0, at TIME 0: PACKETS 1 and 2 in FLIGHT, which are dropped; SIDE 1 has sent one. */
    private static final String[] FALLEN = {SMALL + "write 0 1000 = 1000; send 0 x4 = 0 1 2 3; come 3 = 1; send 1 = 0",
        "come 3 = 1; side 0 2 = 330; side 0 3 = 330; side 0 4 = 0; drop 0 = 2; drop 0 = 1; drop 0 = 0"};

    /** On to OPEN 120, BRIM 120, FALL 3, at TIME 4: without FLIGHT; SIDE 0 has sent 10 PACKETS, SIDE 1 three. */
    private static final String[] LOWEST = SendTest.with(FALLEN,
        "tick 1 = 1; send 0 x4 = 4 5 6 7; come 3 = 1; send 1 = 1; come 3 = 1; side 0 2 = 170; side 0 4 = 1",
        "drop 0 = 2; drop 0 = 1; drop 0 = 0; tick 1 = 2; side 0 1 = 0; send 0 x2 = 8 9; drop 0 = 1; tick 1 = 3",
        "come 0 = 1; send 1 = 2; come 0 = 1; packet 0 8 6 = 1; side 0 2 = 120; side 0 3 = 120; side 0 4 = 3",
        "side 0 1 = 0; tick 1 = 4");

    private LossEdgesTest() {
    }

    public static void main(String[] args) {
        toldOf();
        arrived();
        measured();
        averages();
        grows();
        orderOfGrowth();
        numberBelow();
        highestEver();
        limits();
        falls();
        half();
        lostParts();
        probesBegun();
        waits();
        ticks();
        Rows.close();
    }

    private static void toldOf() {
        Rows.run("2 all numbers of a span, from its least to its greatest, and none beside",
            SMALL + "write 0 294 = 294; send 0 x7 = 0 1 2 3 4 5 6; come 2 = 1; come 2 = 1; come 3 = 1; send 1 = 0",
            "part 1 0 0 3 = 2; part 1 0 0 4 = 5; part 1 0 0 5 = 5; part 1 0 0 6 = 2; part 1 0 0 7 = 3; come 4 = 1",
            "packet 0 0 5 = 0; packet 0 1 5 = 0; packet 0 2 5 = 1; packet 0 3 5 = 1; packet 0 4 5 = 0",
            "packet 0 5 5 = 1; packet 0 6 5 = 0; packet 0 6 6 = 0; packet 0 4 6 = 0; stream 0 4 = 126");
        Rows.run("2 what is not HEAVY is TOLD of, too",
            "write 1 5 = 5; send 1 = 0; come 0 = 1; send 0 = 0; come 0 = 1; packet 0 0 4 = 0; write 0 5 = 5",
            "send 0 = 1; come 0 = 1; send 1 = 1; come 0 = 1; packet 0 0 5 = 1; packet 0 1 5 = 1; side 0 1 = 0",
            "side 0 2 = 2023");
        Rows.run("2 what is TOLD of twice grows OPEN once, and measures once",
            "write 0 5 = 5; send 0 = 0; twice 0 = 2; come 0 = 1; send 1 = 0; come 1 = 1; side 0 2 = 2023; tick 3 = 3",
            "come 0 = 0; send 1 = 1; come 0 = 1; side 0 2 = 2023; side 0 5 = 0; side 0 6 = 0; side 0 7 = 0");
    }

    private static void arrived() {
        Rows.run("2 bytes have arrived, no byte beside", SMALL + "write 0 126 = 126; send 0 x3 = 0 1 2; come 1 = 1",
            "send 1 = 0; come 2 = 1; stream 0 4 = 42; state 0 41 = 1; state 0 42 = 7; state 0 83 = 7; state 0 84 = 1",
            "stream 0 5 = 0");
        Rows.run("2 bytes that went in two PACKETS, both TOLD of, have arrived once",
            SMALL + "write 0 168 = 168; send 0 x4 = 0 1 2 3; come 3 = 1; send 1 = 0; come 3 = 1; packet 0 0 6 = 1",
            "stream 0 4 = 42; stream 0 5 = 42; send 0 = 4; stream 0 5 = 0; come 0 = 1; send 1 = 1; come 3 = 1",
            "packet 0 0 5 = 1; stream 0 4 = 84; stream 0 5 = 0; come 2 = 1; send 1 = 2; come 2 = 1; packet 0 4 5 = 1",
            "stream 0 4 = 84; stream 0 5 = 42; packet 0 1 6 = 1; state 0 0 = 7; state 0 41 = 7; state 0 42 = 2",
            "send 0 = 5; part 0 5 0 2 = 42; stream 0 5 = 0; stream 0 3 = 168");
        Rows.run("2 TOLD itself is no BYTES: nothing of it arrives",
            SMALL + "write 0 84 = 84; send 0 x2 = 0 1; drop 0 = 1; come 0 = 1; write 1 5 = 5; send 1 = 0",
            "part 1 0 0 0 = 1; part 1 0 0 3 = 1; part 1 0 1 0 = 4; come 0 = 1; send 0 = 2; part 0 2 0 0 = 1",
            "come 0 = 1; packet 1 0 5 = 1; state 0 0 = 1; state 0 1 = 1; stream 0 4 = 42; stream 1 4 = 5");
        Rows.run("2 END has arrived only with its own PACKET", SMALL + "write 0 43 = 43; end 0 = 1; send 0 x2 = 0 1",
            "come 0 = 1; send 1 = 0; come 1 = 1; stream 0 7 = 0; stream 0 4 = 42; come 0 = 1; send 1 = 1; come 0 = 1",
            "stream 0 7 = 1; stream 0 4 = 43");
    }

    private static void measured() {
        Rows.run("2 the highest is HEAVY and TOLD of just now", "write 0 1 = 1; tick 2 = 2; send 0 = 0; tick 3 = 5",
            "come 0 = 1; send 1 = 0; tick 2 = 7; come 0 = 1; side 0 5 = 5; side 0 6 = 40; side 0 7 = 20");
        Rows.run("2 the highest was TOLD of before: nothing is measured",
            SMALL + "write 0 84 = 84; send 0 x2 = 0 1; come 1 = 1; send 1 = 0; come 1 = 1; side 0 5 = 0; come 0 = 1",
            "send 1 = 1; tick 4 = 4; packet 0 0 6 = 1; come 0 = 1; packet 0 0 5 = 1; side 0 5 = 0; side 0 6 = 0");
        Rows.run("2 the highest is not HEAVY: nothing is measured",
            "write 0 1 = 1; send 0 = 0; write 1 1 = 1; send 1 = 0; come 1 = 1; send 0 = 1; packet 0 1 4 = 0",
            "come 1 = 1; come 0 = 1; send 1 = 1; tick 2 = 2; come 0 = 1; packet 0 0 5 = 1; packet 0 1 5 = 1",
            "side 0 5 = -6; side 0 6 = -6; side 0 7 = -6; side 0 2 = 2019");
        Rows.run("2 the highest of it alone is measured, not one below",
            SMALL + "write 0 42 = 42; send 0 = 0; tick 3 = 3; write 0 42 = 84; send 0 = 1; come 0 x2 = 1; send 1 = 0",
            "tick 1 = 4; come 0 = 1; side 0 5 = 1; side 0 6 = 8; side 0 7 = 4; side 0 2 = 720");
        Rows.run("2 the highest of it is measured, though it was LOST",
            SMALL + "write 0 378 = 378; send 0 x9 = " + Rows.numbers(0, 8), "come 0 = 1; send 1 = 0; come 1 = 1",
            "come 2 = 1; come 3 = 1; come 4 = 1; send 1 = 1; part 1 1 0 11 = 2; come 5 = 1; packet 0 0 6 = 1",
            "packet 0 0 5 = 0; side 0 5 = 0; tick 3 = 3; come 4 = 1; packet 0 0 5 = 1; packet 0 0 6 = 1; side 0 5 = 3",
            "side 0 6 = 3; side 0 7 = 6");
    }

    /** SIDE 0 sends a byte at a TIME, SIDE 1 tells of it so many ticks later. */
    private static String round(int packet, int ticks, int time) {
        return "write 0 1 = " + (packet + 1) + "; send 0 = " + packet + "; come 0 = 1; send 1 = " + packet
            + (ticks > 0 ? "; tick " + ticks + " = " + time : "") + "; come 0 = 1";
    }

    private static void averages() {
        Rows.run("2 the first time: 8 and 4 LATEST; quotients are cut", round(0, 1, 1), "side 0 6 = 8; side 0 7 = 4",
            // VARY (12 and 16) by 4, SMOOTH (56 and 24) by 8; then VARY (21 and 10) by 4, SMOOTH 70 by 8.
            round(1, 3, 4), "side 0 5 = 3; side 0 6 = 10; side 0 7 = 7", round(2, 0, 4), "side 0 5 = 0; side 0 6 = 8",
            "side 0 7 = 7",
            // VARY (21 and 8) by 4, SMOOTH 56 by 8; then (21 and 1) by 4, (49 and 8) by 8.
            round(3, 0, 4), "side 0 6 = 7; side 0 7 = 7", round(4, 1, 5), "side 0 6 = 7; side 0 7 = 5");
        Rows.run("2 the size of a difference either way", round(0, 4, 4), "side 0 6 = 32; side 0 7 = 16",
            // VARY (48 and 16) by 4, SMOOTH (224 and 48) by 8; then (48 and 14) by 4, (238 and 16) by 8.
            round(1, 6, 10), "side 0 6 = 34; side 0 7 = 16", round(2, 6, 16), "side 0 6 = 35; side 0 7 = 15",
            // VARY (45 and 19) by 4, SMOOTH (245 and 16) by 8.
            round(3, 2, 18), "side 0 6 = 32; side 0 7 = 16");
        Rows.run("2 each SIDE measures its own", "write 1 1 = 1; tick 1 = 1; send 1 = 0; come 0 = 1; tick 2 = 3",
            "send 0 = 0; come 0 = 1; side 1 5 = 2; side 1 6 = 16; side 1 7 = 8; side 0 5 = -6; side 0 6 = -6",
            "side 0 7 = -6");
    }

    private static void grows() {
        Rows.run("2 OPEN below BRIM grows by the weight", round(0, 0, 0), "side 0 2 = 2019; side 0 3 = 1000000",
            round(1, 0, 0),
            "side 0 2 = 2038");
        Rows.run("2 OPEN as much as BRIM grows by ROOM times the weight by OPEN", SendTest.with(FALLEN,
            "tick 1 = 1; send 0 = 4; come 0 = 1; send 1 = 1; come 0 = 1; side 0 2 = 340; side 0 3 = 330; send 0 = 5",
            // 3600 by 330, 340 and 350.
            "come 0 = 1; send 1 = 2; come 0 = 1; side 0 2 = 350; send 0 = 6; come 0 = 1; send 1 = 3; come 0 = 1",
            "side 0 2 = 360"));
        Rows.run("2 sent at the TIME of FALL: it does not grow", SendTest.with(FALLEN,
            "send 0 = 4; come 0 = 1; send 1 = 1; come 0 = 1; packet 0 4 5 = 1; packet 0 1 6 = 1; side 0 2 = 330",
            "side 0 4 = 0"));
        Rows.run("2 sent a TICK behind FALL: it does", SendTest.with(FALLEN,
            "tick 1 = 1; send 0 = 4; tick 1 = 2; come 0 = 1; send 1 = 1; come 0 = 1; side 0 2 = 340; side 0 4 = 0"));
        Rows.run("2 sent at TIME 0 without a FALL: it grows", "cut 0 = 1; send 0 = 0; come 0 = 1; send 1 = 0",
            "come 0 = 1; side 0 2 = 2017; side 0 4 = -1");
        Rows.run("2 one that was LOST does not grow OPEN, though it was sent behind FALL", SendTest.with(FALLEN,
            "tick 1 = 1; send 0 = 4; tick 1 = 2; send 0 = 5; come 1 = 1; send 1 = 1; come 1 = 1; packet 0 4 6 = 1",
            "side 0 4 = 2; side 0 2 = 170; tick 1 = 3; come 0 = 1; send 1 = 2; come 0 = 1; packet 0 4 5 = 1",
            "side 0 2 = 170; side 0 4 = 2"));
        Rows.run("2 what is not HEAVY does not grow OPEN",
            "write 1 1 = 1; send 1 = 0; come 0 = 1; send 0 = 0; come 0 = 1; write 0 1 = 1; send 0 = 1; come 0 = 1",
            "send 1 = 1; come 0 = 1; packet 0 0 5 = 1; packet 0 0 2 = 16; side 0 2 = 2019");
    }

    private static void orderOfGrowth() {
        // 170 and 3600 by 170 are 191, half of it is below 2 ROOM.
        Rows.run("2 OPEN is 2 ROOM at least", LOWEST);
        // 120 and 3600 by 120, then 150 and 1860 by 150; the other way round it would be 135 and 161.
        Rows.run("2 OPEN grows by numbers, within a span", SendTest.with(LOWEST,
            "send 0 = 10; cut 0 = 1; cut 4 = 1; cut 6 = 1; send 0 = 11; packet 0 10 2 = 60; packet 0 11 2 = 31",
            "come 0 x2 = 1; send 1 = 3; come 0 = 1; side 0 2 = 162; side 0 1 = 0"));
        // 120 and 1860 by 120, then 135 and 3600 by 135; the other way round it would be 150 and 162.
        Rows.run("2 OPEN grows by numbers, the lower span first", SendTest.with(LOWEST,
            "cut 0 = 1; cut 4 = 1; cut 6 = 1; send 0 = 10; packet 0 10 2 = 31; write 2 1 = 1; send 0 = 11",
            "packet 0 11 2 = 19; write 2 42 = 43; send 0 = 12; packet 0 12 2 = 60; drop 1 = 2; come 0 x2 = 1",
            "send 1 = 3; part 1 3 0 4 = 12; part 1 3 0 6 = 9; part 1 3 0 7 = 10; come 0 = 1; side 0 2 = 161",
            "side 0 1 = 19"));
    }

    private static void numberBelow() {
        String five = SMALL + "write 0 252 = 252; send 0 x6 = 0 1 2 3 4 5; ";
        Rows.run("2 LOST: 3 or more below, not 2, not 1, not above", five + "come 4 = 1; send 1 = 0; come 5 = 1",
            "side 0 10 = 4; packet 0 0 6 = 1; packet 0 1 6 = 1; packet 0 2 6 = 0; packet 0 3 6 = 0; packet 0 4 6 = 0",
            "packet 0 5 6 = 0; side 0 1 = 180; stream 0 5 = 84");
        Rows.run("2 LOST: 2 below the highest, none is", five + "come 2 = 1; send 1 = 0; come 5 = 1; side 0 10 = 2",
            "packet 0 0 6 = 0; packet 0 1 6 = 0; side 0 4 = -1; side 0 1 = 300; side 0 2 = 660");
        Rows.run("2 LOST: what is TOLD of just now is not", five + "come 0 = 1; come 2 = 1; send 1 = 0; come 4 = 1",
            "packet 0 0 5 = 1; packet 0 0 6 = 0; packet 0 1 6 = 0; side 0 4 = -1; side 0 2 = 720");
        Rows.run("2 LOST by time is none above the highest TOLD of", five + "come 2 = 1; send 1 = 0; come 5 = 1",
            "tick 1 = 1; packet 0 0 6 = 1; packet 0 1 6 = 1; packet 0 3 6 = 0; packet 0 5 6 = 0; side 0 1 = 180",
            "tick 1000 = 1001; packet 0 3 6 = 0; side 0 1 = 180");
        Rows.run("2 nothing is LOST where nothing is TOLD of", five + "tick 1000 = 1000; side 0 10 = -6",
            "packet 0 0 6 = 0; side 0 1 = 360; stream 0 5 = 0");
        Rows.run("2 LOST once", five + "come 3 = 1; send 1 = 0; come 5 = 1; packet 0 0 6 = 1; send 0 = 6",
            "part 0 6 0 2 = 0; come 4 = 1; send 1 = 1; come 5 = 1; packet 0 2 6 = 1; stream 0 5 = 84; state 0 0 = 1",
            "send 0 = 7; part 0 7 0 2 = 42; packet 0 6 6 = 0; side 0 4 = 0; side 0 2 = 330");
    }

    private static void highestEver() {
        Rows.run("2 the highest number TOLD of ever: a late TOLD tells of less",
            SMALL + "write 0 84 = 84; send 0 x2 = 0 1; come 0 = 1; send 1 = 0; come 0 = 1; send 1 = 1; come 1 = 1",
            "side 0 10 = 1; come 0 = 1; side 0 10 = 1; packet 0 0 5 = 1; side 0 5 = 0; side 0 1 = 0");
        Rows.run("2 what is below it is LOST behind a late TOLD, too",
            SMALL + "write 0 126 = 126; send 0 x3 = 0 1 2; come 0 = 1; send 1 = 0; tick 10 = 10; come 1 = 1",
            "send 1 = 1; come 2 = 1; side 0 5 = 10; side 0 10 = 2; packet 0 1 6 = 0; come 1 = 1; side 0 10 = 2",
            "packet 0 1 6 = 0; tick 1 = 11; packet 0 1 6 = 1");
    }

    /** PACKET 0 of two is dropped, the other is TOLD of so many ticks later. */
    private static String twoSent(int later) {
        return SMALL + "write 0 84 = 84; send 0 x2 = 0 1; tick " + later + " = " + later + "; come 1 = 1; send 1 = 0; "
            + "come 1 = 1";
    }

    private static void limits() {
        int[] latest = {1, 7, 8, 14, 15, 16, 63, 64};
        int[] limit = {1, 7, 9, 15, 16, 18, 70, 72};
        for (int i = 0; i < latest.length; i++) {
            int wait = limit[i] - latest[i];
            String name = "2 LIMIT is " + limit[i] + " where LATEST is " + latest[i];
            if (wait == 0) {
                Rows.run(name, twoSent(latest[i]), "packet 0 0 6 = 1; side 0 4 = " + latest[i]);
            } else {
                Rows.run(name, twoSent(latest[i]), "packet 0 0 6 = 0",
                    wait == 1 ? "told 0 = " + latest[i] : "tick " + (wait - 1) + " = " + (limit[i] - 1),
                    "packet 0 0 6 = 0; side 0 1 = 60; tick 1 = " + limit[i] + "; packet 0 0 6 = 1; side 0 1 = 0",
                    "side 0 4 = " + limit[i]);
            }
        }
        String later = SMALL + "write 0 42 = 42; send 0 = 0; tick 4 = 4; ";
        Rows.run("2 LIMIT ticks ago, as TOLD comes", later + "tick 1 = 5; write 0 42 = 84; send 0 = 1; come 1 = 1",
            "send 1 = 0; come 1 = 1; side 0 5 = 0; packet 0 0 6 = 1");
        Rows.run("2 sent LIMIT ticks ago, no longer", SMALL + "tick 4 = 4; write 0 42 = 42; send 0 = 0; tick 1 = 5",
            "write 0 42 = 84; send 0 = 1; come 1 = 1; send 1 = 0; come 1 = 1; side 0 5 = 0; packet 0 0 6 = 1");
        Rows.run("2 sent less than LIMIT ticks ago", SMALL + "tick 5 = 5; write 0 42 = 42; send 0 = 0; write 0 42 = 84",
            "send 0 = 1; come 1 = 1; send 1 = 0; come 1 = 1; side 0 5 = 0; packet 0 0 6 = 0; tick 1 = 6",
            "packet 0 0 6 = 1");
        for (int ticks = 7; ticks <= 9; ticks++) {
            // What SIDE 0 sends last is not HEAVY, so that nothing is measured; it comes alone.
            Rows.run("2 LIMIT is 8 without LATEST: " + ticks, SMALL + "write 0 84 = 84; send 0 x2 = 0 1; write 1 5 = 5",
                "send 1 = 0; come 2 = 1; send 0 = 2; come 1 = 1; come 1 = 1; send 1 = 1",
                "tick " + ticks + " = " + ticks + "; come 1 = 1",
                "side 0 10 = 2; side 0 5 = -6; packet 0 0 6 = " + (ticks >= 8 ? 1 : 0));
        }
    }

    private static void falls() {
        Rows.run("2 one sent at the TIME of FALL is LOST: no FALL", SendTest.with(FALLEN,
            "send 0 = 4; tick 1 = 1; send 0 = 5; come 1 = 1; send 1 = 1; come 1 = 1; packet 0 4 6 = 1; side 0 4 = 0",
            "side 0 2 = 340; side 0 3 = 330"));
        Rows.run("2 one sent a TICK behind FALL is LOST: FALL", SendTest.with(FALLEN,
            "tick 1 = 1; send 0 = 4; tick 1 = 2; send 0 = 5; come 1 = 1; send 1 = 1; come 1 = 1; packet 0 4 6 = 1",
            "side 0 4 = 2; side 0 2 = 170; side 0 3 = 170"));
        Rows.run("2 several LOST at once: one FALL", SMALL + "write 0 300 = 300; send 0 x7 = " + Rows.numbers(0, 6),
            "come 6 = 1",
            "send 1 = 0; come 6 = 1; packet 0 0 6 = 1; packet 0 3 6 = 1; packet 0 4 6 = 0; side 0 2 = 330",
            "side 0 4 = 0; tick 1 = 1; packet 0 4 6 = 1; packet 0 5 6 = 1; side 0 2 = 330; side 0 3 = 330",
            "side 0 4 = 0");
        Rows.run("2 the first LOST at TIME 0 falls: FALL was -1", SMALL + "write 0 168 = 168; send 0 x4 = 0 1 2 3",
            "come 3 = 1; send 1 = 0; side 0 4 = -1; come 3 = 1; side 0 4 = 0; side 0 2 = 330; side 1 4 = -1",
            "side 1 2 = 600");
    }

    /** OPEN from 120 up by 30, 24, 20, 18 and 16 to 228 at TIME 9; then PACKET 15 of a weight, and one that is LOST. */
    private static void half() {
        String[] up = LOWEST;
        int[] open = {150, 174, 194, 212, 228};
        for (int i = 0; i < open.length; i++) {
            up = SendTest.with(up, "send 0 = " + (10 + i) + "; come 0 = 1; send 1 = " + (3 + i) + "; come 0 = 1",
            "side 0 2 = " + open[i]);
        }
        // The weights 41, 42, 45, 46, 50 and 54 make 238, 239, 239, 240, 241 and 242 of 228.
        int[][] cases = {{41, 238, 120}, {42, 239, 120}, {46, 240, 120}, {50, 241, 120}, {54, 242, 121}, {60, 243,
            121}};
        for (int[] c : cases) {
            Rows.run("2 OPEN " + c[1] + " falls to half of it, 2 ROOM at least", SendTest.with(up,
                "cut 0 = 1; send 0 = 15; packet 0 15 2 = 17; write 2 " + (c[0] - 18) + " = " + (c[0] - 18) + "",
                "send 0 = 16; packet 0 16 2 = " + c[0] + "; tick 1 = 5; drop 0 = 1; come 0 = 1; send 1 = 8; come 0 = 1",
                "packet 0 15 6 = 1; side 0 2 = " + c[2] + "; side 0 3 = " + c[2] + "; side 0 4 = 5"));
        }
        Rows.run("2 half of an odd OPEN is cut", SMALL + "write 0 1 = 1; send 0 = 0; write 0 1 = 2; send 0 = 1",
            "come 1 = 1; send 1 = 0; come 1 = 1; side 0 2 = 619; tick 1 = 1; packet 0 0 6 = 1; side 0 2 = 309",
            "side 0 3 = 309; side 0 4 = 1");
    }

    private static void lostParts() {
        Rows.run("2 of LOST BYTES those that have arrived are not sent AGAIN",
            SMALL + "write 0 168 = 168; send 0 x4 = 0 1 2 3; come 3 = 1; send 1 = 0; come 3 = 1; packet 0 0 6 = 1",
            "send 0 = 4; part 0 4 0 2 = 0; drop 3 = 3; come 0 = 1; send 1 = 1; come 2 = 1; packet 0 0 5 = 1",
            "state 0 0 = 7; tick 1 = 1; stream 0 5 = 84; packet 0 4 6 = 0; send 0 = 5; part 0 5 0 2 = 42; come 2 = 1",
            "send 1 = 2; come 2 = 1; packet 0 4 6 = 1; stream 0 5 = 42; state 0 0 = 7; state 0 83 = 7; state 0 84 = 2");
        Rows.run("2 a BOUND is OWED as it is then: nothing more was READ",
            "shape 200 50 4000 = 1; write 0 50 = 50; send 0 = 0; come 0 = 1; read 0 25 = 25; send 1 = 0; drop 0 = 0",
            "write 1 1 = 1; send 1 = 1; tick 1 = 1; come 0 = 1; send 0 = 1; come 0 = 1; packet 1 0 6 = 1",
            "stream 0 12 = 1; stream 0 11 = 75; side 1 15 = 0; stream 2 12 = 0; send 1 = 2; part 1 2 0 0 = 2",
            "part 1 2 0 2 = 75; stream 0 12 = 0; stream 2 12 = 0");
        // Both tell of 75 in PACKET 0 of SIDE 1, of 100 in PACKET 1, which is under way when PACKET 0 is LOST.
        Rows.run("2 a BOUND is OWED, though a later one was told",
            "shape 200 50 50 = 1; write 0 50 = 50; send 0 = 0; come 0 = 1; read 0 25 = 25; send 1 = 0; drop 0 = 0",
            "tick 1 = 1; read 0 25 = 25; send 1 = 1; packet 1 1 3 = 2; part 1 1 0 2 = 100; part 1 1 1 2 = 100",
            "write 1 1 = 1; send 1 = 2; come 1 = 1; send 0 = 1; come 1 = 1; packet 1 0 6 = 1; packet 1 1 6 = 0",
            "stream 0 11 = 100; stream 0 12 = 1; side 1 15 = 1; side 1 16 = 100; send 1 = 3; packet 1 3 3 = 2",
            "part 1 3 0 0 = 2; part 1 3 0 2 = 100; part 1 3 1 0 = 3; part 1 3 1 2 = 100; stream 0 12 = 0",
            "side 1 15 = 0");
        Rows.run("2 BOUND OF ALL, LOST: OWED as it is then",
            "shape 200 1000 50 = 1; write 0 50 = 50; send 0 = 0; come 0 = 1; read 0 25 = 25; send 1 = 0; drop 0 = 0",
            "read 0 5 = 5; side 1 15 = 0; write 1 1 = 1; send 1 = 1; tick 1 = 1; come 0 = 1; send 0 = 1; come 0 = 1",
            "packet 1 0 6 = 1; side 1 15 = 1; side 1 16 = 75; send 1 = 2; part 1 2 0 0 = 3; part 1 2 0 2 = 80",
            "packet 1 2 3 = 1; side 1 16 = 80; side 1 15 = 0; side 0 15 = 0; stream 0 12 = 0");
        Rows.run("2 PING that is LOST is not OWED anew", "cut 0 = 1; send 0 = 0; come 0 = 1; drop 0 = -1; tick 8 = 8",
            "send 0 = 1; part 0 1 0 0 = 8; drop 0 = 0; write 2 1 = 1; send 0 = 2; tick 1 = 9; come 0 = 1; send 1 = 0",
            "come 0 = 1; packet 0 1 6 = 1; side 0 9 = 0; side 0 1 = 0; send 0 = -5");
        Rows.run("2 TOLD that went with what is LOST is not OWED anew",
            "write 0 1 = 1; send 0 = 0; come 0 = 1; write 1 1 = 1; send 1 = 0; part 1 0 0 0 = 1; drop 0 = 0",
            "write 1 1 = 2; send 1 = 1; tick 1 = 1; come 0 = 1; send 0 = 1; come 0 = 1; packet 1 0 6 = 1",
            "side 1 12 = 0; send 1 = 2; packet 1 2 3 = 1; part 1 2 0 0 = 4");
    }

    private static void probesBegun() {
        Rows.run("2 a HEAVY one TOLD of: PROBES begun are 0", "cut 0 = 1; send 0 = 0; tick 16 = 16; side 0 8 = 2",
            "come 0 = 1; send 1 = 0; side 0 8 = 2; come 0 = 1; side 0 8 = 0; side 0 9 = 1; side 0 1 = 0",
            "tick 1000 = 1016; side 0 8 = 0");
        Rows.run("2 one that is not HEAVY TOLD of: they stay",
            "write 0 1 = 1; send 0 = 0; twice 0 = 2; come 0 = 1; send 1 = 0; come 1 = 1; side 0 5 = 0; cut 0 = 1",
            "send 0 = 1; drop 1 = 1; write 1 1 = 1; send 1 = 1; come 1 = 1; send 0 = 2; packet 0 2 4 = 0; come 1 = 1",
            "packet 1 1 5 = 1; tick 3 = 3; side 0 8 = 1; come 0 = 0; send 1 = 2; packet 1 2 4 = 0; part 1 2 0 3 = 2",
            "come 0 = 1; packet 0 2 5 = 1; packet 0 1 5 = 0; side 0 8 = 1; packet 0 1 6 = 1; side 0 1 = 0");
        Rows.run("2 a LOST one TOLD of: PROBES begun are 0",
            SMALL + "write 0 168 = 168; send 0 x4 = 0 1 2 3; come 3 = 1; send 1 = 0; come 3 = 1; packet 0 0 6 = 1",
            "come 0 = 1; send 1 = 1; send 0 = 4; tick 3 = 3; side 0 8 = 1; come 2 = 1; packet 0 0 5 = 1; side 0 8 = 0");
        Rows.run("2 2 to the PROBES begun, 6 at most", "cut 0 = 1; send 0 = 0; tick 511 = 511; side 0 8 = 6",
            "tick 1 = 512; side 0 8 = 7; send 0 = 1; side 0 8 = 7; side 0 9 = 0; tick 511 = 1023; side 0 8 = 7",
            "side 0 9 = 0; tick 1 = 1024; side 0 8 = 8; side 0 9 = 1; send 0 = 2; tick 511 = 1535; side 0 8 = 8",
            "tick 1 = 1536; side 0 8 = 9; tick 1 = 1537; side 0 8 = 10");
        Rows.run("2 2 to 5 of them", "cut 0 = 1; send 0 = 0; tick 128 = 128; side 0 8 = 5; send 0 = 1; tick 255 = 383",
            "side 0 8 = 5; tick 1 = 384; side 0 8 = 6");
    }

    private static void waits() {
        Rows.run("2 WAIT is 8 without LATEST", "cut 1 = 1; send 1 = 0; tick 7 = 7; side 1 9 = 0; side 1 8 = 0",
            "tick 1 = 8; side 1 9 = 1; side 1 8 = 1; side 0 8 = 0; side 0 9 = 0");
        // SMOOTH 0, VARY 0: (0 and 8) by 8, and 2.
        Rows.run("2 WAIT: 8 where 4 VARY is less", round(0, 0, 0), "cut 0 = 1; send 0 = 1; tick 2 = 2; side 0 9 = 0",
            "tick 1 = 3; side 0 9 = 1; side 0 7 = 0");
        // SMOOTH 8, VARY 4: (8 and 16) by 8, and 2.
        Rows.run("2 WAIT: 4 VARY where that is more", round(0, 1, 1), "cut 0 = 1; send 0 = 1; tick 4 = 5; side 0 9 = 0",
            "tick 1 = 6; side 0 9 = 1");
        // SMOOTH 8, VARY 3: (8 and 12) by 8, and 2: quotients are cut.
        Rows.run("2 WAIT is cut", round(0, 1, 1), round(1, 1, 2), "side 0 6 = 8; side 0 7 = 3; cut 0 = 1; send 0 = 2",
            "tick 3 = 5; side 0 9 = 0; tick 1 = 6; side 0 9 = 1");
        // VARY 2: 4 VARY is 8.
        Rows.run("2 WAIT: 4 VARY is 8", round(0, 1, 1), round(1, 1, 2), round(2, 1, 3), "side 0 6 = 8; side 0 7 = 2",
            "cut 0 = 1; send 0 = 3; tick 3 = 6; side 0 9 = 0; tick 1 = 7; side 0 9 = 1");
        // SMOOTH 7, VARY 7: (7 and 28) by 8, and 2.
        Rows.run("2 WAIT: SMOOTH and 4 VARY together by 8", round(0, 1, 1), round(1, 3, 4), round(2, 0, 4), round(3, 0,
            4),
            "side 0 6 = 7; side 0 7 = 7; cut 0 = 1; send 0 = 4; tick 5 = 9; side 0 9 = 0; tick 1 = 10; side 0 9 = 1");
        Rows.run("2 from the TIME of the last HEAVY one", "cut 0 = 1; send 0 = 0; tick 5 = 5; cut 2 = 1; send 0 = 1",
            "tick 7 = 12; side 0 8 = 0; tick 1 = 13; side 0 8 = 1; side 0 9 = 1");
        Rows.run("2 no FLIGHT, no PROBE", "tick 1000 = 1000; side 0 8 = 0; side 1 8 = 0; cut 0 = 1; send 0 = 0",
            "tick 7 = 1007; side 0 8 = 0; tick 1 = 1008; side 0 8 = 1");
    }

    private static void ticks() {
        Rows.run("12 n TICKS are as n times one", "cut 0 = 1; cut 1 = 1; send 0 = 0; send 1 = 0; tick 1000 = 1000",
            "side 0 8 = 495; side 1 8 = 495");
        Rows.run("12 a TICK that is refused begins no PROBE", "cut 0 = 1; send 0 = 0; tick 515 = 515; side 0 8 = 10",
            "tick 0 = -2; tick 1001 = -2; tick MIN = -2; tick MAX = -2; side 0 8 = 10; told 0 = 515; tick 1 = 516",
            "side 0 8 = 11");
        Rows.run("12 one at a time", "cut 0 = 1; send 0 = 0; tick 1 x500 = " + Rows.numbers(1, 500), "side 0 8 = 6",
            "tick 12 = 512; side 0 8 = 7; tick 488 = 1000; side 0 8 = 495");
        Rows.run("12 for each SIDE what is LOST is looked for", "write 1 1 = 1; send 1 = 0; write 1 1 = 2; send 1 = 1",
            "come 1 = 1; send 0 = 0; come 1 = 1; side 1 5 = 0; packet 1 0 6 = 0; write 0 1 = 1; send 0 = 1",
            "write 0 1 = 2; send 0 = 2; come 2 = 1; send 1 = 2; come 2 = 1; packet 0 1 6 = 0; tick 1 = 1",
            "packet 1 0 6 = 1; packet 0 1 6 = 1; side 1 4 = 1; side 0 4 = 1");
    }
}
