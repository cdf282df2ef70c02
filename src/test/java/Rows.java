import java.util.ArrayList;
import java.util.List;

/**
 * Runs of calls told in rows: "write 0 10 = 10" is the call write(0, 10), whose due answer is 10.
 * A row may hold several, parted by ";". "send 1 x3 = 4 5 6" calls three times.
 */
final class Rows {
    private static int runs = 0;
    private static int wrong = 0;

    private Rows() {
    }

    /** Runs the rows on a new object. */
    static void run(String name, String... rows) {
        runs++;
        StreamCarrier x = new StreamCarrier();
        for (String row : rows) {
            for (String one : row.split(";")) {
                check(name, x, one.trim());
            }
        }
    }

    private static void check(String name, StreamCarrier x, String row) {
        int at = row.indexOf(" = ");
        if (at < 0) {
            throw new IllegalStateException("a row without an answer: " + row);
        }
        List<String> words = new ArrayList<>(List.of(row.substring(0, at).trim().split(" +")));
        int times = 1;
        String last = words.get(words.size() - 1);
        if (last.startsWith("x")) {
            times = Integer.parseInt(last.substring(1));
            words.remove(words.size() - 1);
        }
        String[] due = row.substring(at + 3).trim().split(" +");
        int[] n = new int[words.size() - 1];
        for (int i = 0; i < n.length; i++) {
            n[i] = Integer.parseInt(words.get(i + 1));
        }
        for (int t = 0; t < times; t++) {
            int want = Integer.parseInt(due[Math.min(t, due.length - 1)]);
            int answer = call(x, words.get(0), n);
            if (answer != want) {
                wrong++;
                System.out.println(name + ": " + row + ": call " + (t + 1) + " answered " + answer);
            }
        }
    }

    static int call(StreamCarrier x, String what, int... n) {
        switch (what) {
            case "shape": return x.shape(n[0], n[1], n[2]);
            case "write": return x.write(n[0], n[1]);
            case "end": return x.end(n[0]);
            case "cut": return x.cut(n[0]);
            case "read": return x.read(n[0], n[1]);
            case "move": return x.move();
            case "send": return x.send(n[0]);
            case "come": return x.come(n[0]);
            case "drop": return x.drop(n[0]);
            case "twice": return x.twice(n[0]);
            case "tick": return x.tick(n[0]);
            case "stream": return x.stream(n[0], n[1]);
            case "state": return x.state(n[0], n[1]);
            case "side": return x.side(n[0], n[1]);
            case "packet": return x.packet(n[0], n[1], n[2]);
            case "part": return x.part(n[0], n[1], n[2], n[3]);
            case "net": return x.net(n[0], n[1]);
            case "told": return x.told(n[0]);
            default: throw new IllegalStateException("no such call: " + what);
        }
    }

    /** Ends the test: with exit code 1, if an answer was not the one that is due. */
    static void close() {
        System.out.println(runs + " runs, " + wrong + " answers not as due");
        if (wrong != 0) {
            System.exit(1);
        }
    }
}
