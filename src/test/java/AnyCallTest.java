import java.util.ArrayList;
import java.util.List;

/** Any call with any arguments in any state: none throws, all end, and what is refused changes nothing. */
public final class AnyCallTest {
    private static final String[] CHANGES = {"shape", "write", "end", "cut", "read", "move", "send", "come", "drop",
        "twice", "tick"};
    private static final String[] TELLS = {"stream", "state", "side", "packet", "part", "net", "told"};
    private static final int[] ODD = {Integer.MIN_VALUE, Integer.MIN_VALUE + 1, -1000000, -7, -6, -2, -1, 0, 1, 2, 3, 5,
        7, 8, 11, 12, 16, 17, 42, 60, 200, 299, 300, 301, 399, 400, 401, 999, 1000, 1001, 4000, 10000, 1 << 30,
        Integer.MAX_VALUE - 1, Integer.MAX_VALUE};

    private static long seed = 7;

    private AnyCallTest() {
    }

    private static int below(int n) {
        seed = seed * 6364136223846793005L + 1442695040888963407L;
        return (int) ((seed >>> 33) % n);
    }

    private static int[] arguments(int most) {
        int[] n = new int[4];
        for (int i = 0; i < n.length; i++) {
            n[i] = below(3) == 0 ? ODD[below(ODD.length)] : below(most);
        }
        return n;
    }

    public static void main(String[] args) {
        Watch.start();
        int calls = 0;
        for (int run = 0; run < 150; run++) {
            calls += longRun(new StreamCarrier(), 3000, run % 3);
        }
        for (int run = 0; run < 60; run++) {
            refusedRun();
        }
        fullOfEverything();
        System.out.println(calls + " calls of any kind threw nothing");
    }

    /** Far more calls than are promised: these may answer anything, but none may throw. */
    private static int longRun(StreamCarrier x, int calls, int kind) {
        for (int call = 0; call < calls; call++) {
            String what = kind == 2 || below(4) > 0 ? CHANGES[below(CHANGES.length)] : TELLS[below(TELLS.length)];
            if (kind == 1 && below(2) == 0) {
                what = below(2) == 0 ? "send" : "come";
            }
            Call one = new Call(what, arguments(below(2) == 0 ? 2 : 60), 0);
            try {
                one.on(x);
            } catch (RuntimeException wrong) {
                System.out.println(one + " threw " + wrong);
                System.exit(1);
            }
        }
        return calls;
    }

    /** One object gets every call, another only those that were not refused: these answer the same. */
    private static void refusedRun() {
        StreamCarrier x = new StreamCarrier();
        StreamCarrier y = new StreamCarrier();
        List<Call> all = new ArrayList<>();
        List<Call> accepted = new ArrayList<>();
        for (int call = 0; call < Rows.CALLS_AT_MOST - 60; call++) {
            String what = CHANGES[below(CHANGES.length)];
            Call one = new Call(what, arguments(what.equals("tick") ? 3 : 8), 0);
            int answer = one.on(x);
            all.add(one);
            if (answer >= 0) {
                accepted.add(one);
                if (one.on(y) != answer) {
                    System.out.println(one + " answered " + answer + ", and something else without the refused calls");
                    System.exit(1);
                }
            }
        }
        String difference = Look.difference(Look.at(all), Look.at(accepted));
        if (!difference.equals("nothing")) {
            System.out.println("refused calls changed something: " + difference);
            System.exit(1);
        }
    }

    private static void fullOfEverything() {
        StreamCarrier x = new StreamCarrier();
        x.shape(1000, 1000, 4000);
        for (int s = 0; s < 8; s++) {
            x.write(s, 1000);
            x.end(s);
        }
        for (int n = 0; n < 400; n++) {
            x.send(n % 2);
            x.twice(n % 7);
            x.come(n % 5);
            x.read(n % 8, 1000);
            if (n % 3 == 0) {
                x.cut(n % 8);
                x.move();
            }
            x.tick(1000);
        }
        for (int n = 0; n < 1200; n++) {
            x.come(0);
        }
        if (x.told(1) != 0 || x.net(0, 0) != StreamCarrier.UNKNOWN) {
            System.out.println("the net is not empty: " + x.told(1));
            System.exit(1);
        }
    }
}
