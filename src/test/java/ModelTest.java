import java.util.ArrayList;
import java.util.Arrays;
import java.util.List;

/**
 * Runs of 512 calls, made by a fixed row of numbers, on the program and on Model side by side: each answer is the
 * same, and now and then, and at the end, all that is told.
 */
public final class ModelTest {
    private static final String[] NAMES = {"shape", "write", "end", "cut", "read", "move", "send", "come", "drop",
        "twice", "tick", "told", "stream", "state", "side", "packet", "part", "net"};
    /** How often each of NAMES up to tick is called in a run of a kind; the rest only tell. */
    private static final int[][] KINDS = {
        {1, 60, 8, 2, 60, 1, 160, 140, 10, 8, 20},
        {0, 40, 6, 2, 30, 0, 200, 120, 40, 5, 25},
        {0, 40, 6, 6, 40, 14, 160, 150, 8, 8, 8},
        {0, 60, 12, 12, 50, 3, 160, 100, 2, 60, 4},
        {0, 80, 2, 0, 90, 2, 180, 190, 4, 2, 6},
        {0, 30, 30, 10, 10, 1, 120, 90, 40, 5, 60},
        {0, 200, 2, 0, 2, 0, 300, 3, 0, 30, 0},
        {2, 20, 20, 20, 20, 20, 20, 20, 20, 20, 20},
    };
    private static final int RUNS_OF_KIND = 60;

    private static long seed = 1;
    private static int wrong = 0;

    private ModelTest() {
    }

    private static int below(int n) {
        seed = seed * 6364136223846793005L + 1442695040888963407L;
        return (int) ((seed >>> 33) % n);
    }

    private static int between(int least, int greatest) {
        return least + below(greatest - least + 1);
    }

    /** Now and then a number that no call takes, or one at an edge. */
    private static int wild(int n) {
        int[] odd = {-1, 8, 1001, Integer.MIN_VALUE, Integer.MAX_VALUE, 2, 0, -6};
        return below(40) == 0 ? odd[below(odd.length)] : n;
    }

    public static void main(String[] args) {
        int perKind = args.length > 0 ? Integer.parseInt(args[0]) : RUNS_OF_KIND;
        if (perKind <= RUNS_OF_KIND) {
            Watch.start();
        }
        int runs = 0;
        for (int kind = 0; kind < KINDS.length; kind++) {
            for (int i = 0; i < perKind && wrong == 0; i++) {
                seed = 1000003L * kind + i;
                oneRun("kind " + kind + " run " + i, KINDS[kind]);
                runs++;
            }
        }
        System.out.println(runs + " runs against the model, " + wrong + " faults");
        if (wrong != 0) {
            System.exit(1);
        }
    }

    private static void fault(String text) {
        wrong++;
        System.out.println(text);
    }

    private static void oneRun(String run, int[] often) {
        StreamCarrier x = new StreamCarrier();
        Model m = new Model();
        List<Call> row = new ArrayList<>();
        int calls = 0;
        if (below(3) > 0) {
            int[] rooms = {60, 61, 75, 100, 200, 1000};
            int r = rooms[below(rooms.length)], w = between(50, 400), v = between(50, 1200);
            calls += same(run, x, m, row, new Call("shape", new int[] {r, w, v}, 0));
        }
        int reorder = below(3);
        int tells = below(4) == 0 ? 0 : 30;
        int look = below(400);
        while (calls < Rows.CALLS_AT_MOST && wrong == 0) {
            String what = below(100) < tells ? NAMES[between(often.length, NAMES.length - 1)] : NAMES[pick(often)];
            calls += same(run, x, m, row, new Call(what, arguments(what, m, reorder), 0));
            if (calls == look) {
                sameLook(run, row, m);
            }
        }
        sameLook(run, row, m);
    }

    /** Answers 1: it was one call. */
    private static int same(String run, StreamCarrier x, Model m, List<Call> row, Call call) {
        if (call.changes()) {
            row.add(call);
        }
        int program = call.on(x);
        int model = call.on(m);
        if (program != model) {
            fault(run + ": " + call + " answered " + program + ", the model " + model);
        }
        return 1;
    }

    private static void sameLook(String run, List<Call> row, Model m) {
        String program = Look.at(row);
        if (wrong == 0 && !program.isEmpty()) {
            String model = Look.at(m);
            if (!program.equals(model)) {
                fault(run + ", behind " + row.size() + " calls: " + Look.difference(program, model));
            }
        }
    }

    private static int pick(int[] often) {
        int left = below(Arrays.stream(often).sum());
        int what = 0;
        while (left >= often[what]) {
            left -= often[what];
            what++;
        }
        return what;
    }

    private static int place(Model m, int reorder) {
        int n = m.net.size();
        if (n == 0) {
            return below(3) - 1;
        }
        return wild(reorder == 0 || below(4) > reorder ? 0 : below(Math.min(n, 3 * reorder * reorder)));
    }

    private static int[] arguments(String what, Model m, int reorder) {
        int side = below(2);
        int last = m.sent.get(side).size() - 1;
        int number = wild(below(2) == 0 ? last : between(-1, last + 1));
        switch (what) {
            case "shape": return new int[] {between(59, 300), between(49, 400), between(49, 1000)};
            case "write": return new int[] {wild(below(8)), wild(below(6) == 0 ? between(1, 1000) : between(1, 120))};
            case "end":
            case "cut": return new int[] {wild(below(8))};
            case "read": return new int[] {wild(below(8)), wild(between(1, 150))};
            case "move": return new int[0];
            case "send": return new int[] {wild(side)};
            case "tick":
                return new int[] {wild(below(5) == 0 ? between(1, 60) : below(40) == 0 ? 1000 : between(1, 4))};
            case "told": return new int[] {between(-1, 8)};
            case "stream": return new int[] {wild(below(8)), between(-1, 15)};
            case "state": return new int[] {wild(below(8)), wild(below(2) == 0 ? below(1000) : below(120))};
            case "side": return new int[] {wild(side), between(-1, 17)};
            case "packet": return new int[] {wild(side), number, between(-1, 8)};
            case "part": return new int[] {wild(side), number, between(-1, 4), between(-1, 12)};
            case "net": return new int[] {place(m, reorder), between(-1, 2)};
            default: return new int[] {place(m, reorder)};
        }
    }
}
