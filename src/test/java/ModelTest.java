/** Long runs of calls, made by a fixed row of numbers, on the program and on Model side by side. */
public final class ModelTest {
    private static final int CALLS = 512;
    private static final String[] NAMES = {"shape", "write", "end", "cut", "read", "move", "send", "come", "drop",
        "twice", "tick"};
    /** How often each of NAMES is called in a run of a kind. */
    private static final int[][] KINDS = {
        {1, 60, 8, 2, 60, 1, 160, 140, 10, 8, 20},
        {0, 40, 6, 2, 30, 0, 200, 120, 40, 5, 25},
        {0, 40, 6, 6, 40, 14, 160, 150, 8, 8, 8},
        {0, 60, 12, 12, 50, 3, 160, 100, 2, 60, 4},
        {0, 80, 2, 0, 90, 2, 180, 190, 4, 2, 6},
        {0, 30, 30, 10, 10, 1, 120, 90, 40, 5, 60},
        {0, 200, 2, 0, 2, 0, 300, 3, 0, 30, 0},
        {2, 20, 20, 20, 20, 20, 20, 20, 20, 20, 20},
    };
    private static final int RUNS_OF_KIND = 60;

    private static long seed = 1;
    private static int wrong = 0;

    private ModelTest() {
    }

    private static int below(int n) {
        seed = seed * 6364136223846793005L + 1442695040888963407L;
        return (int) ((seed >>> 33) % n);
    }

    private static int between(int least, int greatest) {
        return least + below(greatest - least + 1);
    }

    /** Now and then a number that no call takes, or one at an edge. */
    private static int wild(int n) {
        int[] odd = {-1, 8, 1001, Integer.MIN_VALUE, Integer.MAX_VALUE, 2, 0, -6};
        return below(40) == 0 ? odd[below(odd.length)] : n;
    }

    private static void same(String run, String call, int program, int model) {
        if (program != model) {
            wrong++;
            if (wrong <= 20) {
                System.out.println(run + ": " + call + " answered " + program + ", the model " + model);
            }
        }
    }

    public static void main(String[] args) {
        int perKind = args.length > 0 ? Integer.parseInt(args[0]) : RUNS_OF_KIND;
        int runs = 0;
        for (int kind = 0; kind < KINDS.length; kind++) {
            for (int i = 0; i < perKind && wrong == 0; i++) {
                seed = 1000003L * kind + i;
                oneRun("kind " + kind + " run " + i, KINDS[kind]);
                runs++;
            }
        }
        System.out.println(runs + " runs against the model, " + wrong + " answers not the same");
        if (wrong != 0) {
            System.exit(1);
        }
    }

    private static void oneRun(String run, int[] often) {
        StreamCarrier x = new StreamCarrier();
        Model m = new Model();
        if (below(3) > 0) {
            int[] rooms = {60, 61, 75, 100, 200, 1000};
            int r = rooms[below(rooms.length)], w = between(50, 400), v = between(50, 1200);
            same(run, "shape", x.shape(r, w, v), m.shape(r, w, v));
        }
        int reorder = below(3);
        for (int call = 1; call < CALLS && wrong == 0; call++) {
            int what = pick(often);
            int[] n = arguments(what, m, reorder);
            String told = NAMES[what] + java.util.Arrays.toString(n) + " (call " + call + ")";
            same(run, told, Rows.call(x, NAMES[what], n), callModel(m, NAMES[what], n));
            lookAround(run + " behind " + told, x, m, call % 32 == 0);
        }
        lookEverywhere(run + " at its end", x, m);
    }

    private static int pick(int[] often) {
        int sum = 0;
        for (int n : often) {
            sum += n;
        }
        int left = below(sum);
        int what = 0;
        while (left >= often[what]) {
            left -= often[what];
            what++;
        }
        return what;
    }

    private static int place(Model m, int reorder) {
        int n = m.net.size();
        if (n == 0) {
            return below(3) - 1;
        }
        return wild(reorder == 0 || below(4) > reorder ? 0 : below(Math.min(n, 3 * reorder * reorder)));
    }

    private static int[] arguments(int what, Model m, int reorder) {
        switch (NAMES[what]) {
            case "shape": return new int[] {between(59, 300), between(49, 400), between(49, 1000)};
            case "write": return new int[] {wild(below(8)), wild(below(6) == 0 ? between(1, 1000) : between(1, 120))};
            case "end":
            case "cut": return new int[] {wild(below(8))};
            case "read": return new int[] {wild(below(8)), wild(between(1, 150))};
            case "move": return new int[0];
            case "send": return new int[] {wild(below(2))};
            case "tick":
                return new int[] {wild(below(5) == 0 ? between(1, 60) : below(40) == 0 ? 1000 : between(1, 4))};
            default: return new int[] {place(m, reorder)};
        }
    }

    private static int callModel(Model m, String what, int[] n) {
        switch (what) {
            case "shape": return m.shape(n[0], n[1], n[2]);
            case "write": return m.write(n[0], n[1]);
            case "end": return m.end(n[0]);
            case "cut": return m.cut(n[0]);
            case "read": return m.read(n[0], n[1]);
            case "move": return m.move();
            case "send": return m.send(n[0]);
            case "come": return m.come(n[0]);
            case "drop": return m.drop(n[0]);
            case "twice": return m.twice(n[0]);
            default: return m.tick(n[0]);
        }
    }

    private static void lookAround(String run, StreamCarrier x, Model m, boolean streamsToo) {
        for (int what = -1; what <= 8; what++) {
            same(run, "told " + what, x.told(what), m.told(what));
        }
        for (int side = 0; side < 2; side++) {
            for (int what = -1; what <= 17; what++) {
                same(run, "side " + side + " " + what, x.side(side, what), m.side(side, what));
            }
            lookAtPacket(run, x, m, side, x.side(side, 0) - 1);
            lookAtPacket(run, x, m, side, below(1 + Math.max(0, x.side(side, 0))));
        }
        int i = below(1 + m.net.size());
        same(run, "net " + i, x.net(i, 1), m.net(i, 1));
        for (int s = 0; s < 8; s++) {
            same(run, "stream " + s + " 13", x.stream(s, 13), m.stream(s, 13));
            if (streamsToo) {
                lookAtStream(run, x, m, s);
            }
        }
    }

    private static void lookAtStream(String run, StreamCarrier x, Model m, int s) {
        for (int what = -1; what <= 15; what++) {
            same(run, "stream " + s + " " + what, x.stream(s, what), m.stream(s, what));
        }
    }

    private static void lookAtPacket(String run, StreamCarrier x, Model m, int side, int number) {
        for (int what = -1; what <= 8; what++) {
            String call = "packet " + side + " " + number + " " + what;
            same(run, call, x.packet(side, number, what), m.packet(side, number, what));
        }
        int parts = Math.max(0, x.packet(side, number, 3));
        for (int k = -1; k <= parts; k++) {
            for (int what = -1; what <= 12; what++) {
                String call = "part " + side + " " + number + " " + k + " " + what;
                same(run, call, x.part(side, number, k, what), m.part(side, number, k, what));
            }
        }
    }

    private static void lookEverywhere(String run, StreamCarrier x, Model m) {
        for (int s = -1; s <= 8; s++) {
            lookAtStream(run, x, m, s);
            for (int i = -1; i <= 1000; i++) {
                same(run, "state " + s + " " + i, x.state(s, i), m.state(s, i));
            }
        }
        for (int side = -1; side <= 2; side++) {
            for (int n = -1; n <= Math.max(0, x.side(side, 0)); n++) {
                lookAtPacket(run, x, m, side, n);
            }
        }
        for (int i = -1; i <= m.net.size(); i++) {
            for (int what = -1; what <= 2; what++) {
                same(run, "net " + i + " " + what, x.net(i, what), m.net(i, what));
            }
        }
    }
}
