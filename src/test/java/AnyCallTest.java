import java.util.Arrays;

/** Any call with any arguments in any state: none throws, all end, and what is refused changes nothing. */
public final class AnyCallTest {
    private static final String[] CHANGES = {"shape", "write", "end", "cut", "read", "move", "send", "come", "drop",
        "twice", "tick"};
    private static final String[] TELLS = {"stream", "state", "side", "packet", "part", "net", "told"};
    private static final int[] ODD = {Integer.MIN_VALUE, Integer.MIN_VALUE + 1, -1000000, -7, -6, -2, -1, 0, 1, 2, 3, 5,
        7, 8, 11, 12, 16, 17, 42, 60, 200, 299, 300, 301, 399, 400, 401, 999, 1000, 1001, 4000, 10000, 1 << 30,
        Integer.MAX_VALUE - 1, Integer.MAX_VALUE};

    private static long seed = 7;

    private AnyCallTest() {
    }

    private static int below(int n) {
        seed = seed * 6364136223846793005L + 1442695040888963407L;
        return (int) ((seed >>> 33) % n);
    }

    private static int[] arguments(int most) {
        int[] n = new int[4];
        for (int i = 0; i < n.length; i++) {
            n[i] = below(3) == 0 ? ODD[below(ODD.length)] : below(most);
        }
        return n;
    }

    public static void main(String[] args) {
        int calls = 0;
        for (int run = 0; run < 150; run++) {
            calls += longRun(new StreamCarrier(), 3000, run % 3);
        }
        for (int run = 0; run < 30; run++) {
            refusedRun();
        }
        fullOfEverything();
        System.out.println(calls + " calls of any kind threw nothing");
    }

    /** Far more calls than are promised: these may answer anything, but none may throw. */
    private static int longRun(StreamCarrier x, int calls, int kind) {
        for (int call = 0; call < calls; call++) {
            String what = kind == 2 || below(4) > 0 ? CHANGES[below(CHANGES.length)] : TELLS[below(TELLS.length)];
            if (kind == 1 && below(2) == 0) {
                what = below(2) == 0 ? "send" : "come";
            }
            int[] n = arguments(below(2) == 0 ? 2 : 60);
            try {
                Rows.call(x, what, n);
            } catch (RuntimeException wrong) {
                System.out.println(what + " " + Arrays.toString(n) + " threw " + wrong);
                System.exit(1);
            }
        }
        return calls;
    }

    private static void refusedRun() {
        StreamCarrier x = new StreamCarrier();
        for (int call = 0; call < 500; call++) {
            String what = CHANGES[below(CHANGES.length)];
            int[] n = arguments(8);
            boolean looks = call % 4 == 0;
            String before = looks ? all(x) : "";
            int answer = Rows.call(x, what, n);
            if (looks && answer < 0 && !before.equals(all(x))) {
                System.out.println(what + " " + Arrays.toString(n) + " answered " + answer + " and changed something");
                System.exit(1);
            }
        }
    }

    /** All that is told of an object, as a text. */
    private static String all(StreamCarrier x) {
        StringBuilder text = new StringBuilder();
        for (int what = 0; what < 8; what++) {
            text.append(x.told(what)).append(' ');
        }
        for (int s = 0; s < 8; s++) {
            for (int what = 0; what < 15; what++) {
                text.append(x.stream(s, what)).append(' ');
            }
            for (int i = 0; i < x.stream(s, 3); i++) {
                text.append(x.state(s, i));
            }
        }
        for (int side = 0; side < 2; side++) {
            for (int what = 0; what < 17; what++) {
                text.append(x.side(side, what)).append(' ');
            }
            for (int n = 0; n < x.side(side, 0); n++) {
                for (int what = 0; what < 8; what++) {
                    text.append(x.packet(side, n, what)).append(' ');
                }
            }
        }
        for (int i = 0; i < x.told(1); i++) {
            text.append(x.net(i, 0)).append(' ').append(x.net(i, 1)).append(' ');
        }
        return text.toString();
    }

    private static void fullOfEverything() {
        StreamCarrier x = new StreamCarrier();
        x.shape(1000, 1000, 4000);
        for (int s = 0; s < 8; s++) {
            x.write(s, 1000);
            x.end(s);
        }
        for (int n = 0; n < 400; n++) {
            x.send(n % 2);
            x.twice(n % 7);
            x.come(n % 5);
            x.read(n % 8, 1000);
            if (n % 3 == 0) {
                x.cut(n % 8);
                x.move();
            }
            x.tick(1000);
        }
        for (int n = 0; n < 1200; n++) {
            x.come(0);
        }
        if (x.told(1) != 0 || x.net(0, 0) != StreamCarrier.UNKNOWN) {
            System.out.println("the net is not empty: " + x.told(1));
            System.exit(1);
        }
    }
}
