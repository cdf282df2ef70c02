import java.util.ArrayList;
import java.util.List;
import java.util.Set;

/**
 * A call and the answer that is due. Read from rows: "write 0 10 = 10" is write(0, 10), whose due answer is 10.
 * A row may hold several, parted by ";". "send 1 x3 = 4 5 6" calls three times. MIN and MAX are the smallest and the
 * largest int.
 */
final class Call {
    private static final Set<String> CHANGES = Set.of("shape", "write", "end", "cut", "read", "move", "send", "come",
        "drop", "twice", "tick");

    final String what;
    final int[] n;
    final int due;

    Call(String what, int[] n, int due) {
        this.what = what;
        this.n = n;
        this.due = due;
    }

    static List<Call> read(String... rows) {
        List<Call> calls = new ArrayList<>();
        for (String row : rows) {
            for (String one : row.split(";")) {
                if (!one.isBlank()) {
                    readOne(calls, one.trim());
                }
            }
        }
        return calls;
    }

    private static void readOne(List<Call> calls, String row) {
        int at = row.indexOf(" = ");
        if (at < 0) {
            throw new IllegalStateException("a row without an answer: " + row);
        }
        List<String> words = new ArrayList<>(List.of(row.substring(0, at).trim().split(" +")));
        int times = 1;
        String last = words.get(words.size() - 1);
        if (last.startsWith("x")) {
            times = Integer.parseInt(last.substring(1));
            words.remove(words.size() - 1);
        }
        String[] due = row.substring(at + 3).trim().split(" +");
        int[] n = new int[words.size() - 1];
        for (int i = 0; i < n.length; i++) {
            n[i] = number(words.get(i + 1));
        }
        for (int t = 0; t < times; t++) {
            calls.add(new Call(words.get(0), n, number(due[Math.min(t, due.length - 1)])));
        }
    }

    private static int number(String word) {
        return word.equals("MIN") ? Integer.MIN_VALUE : word.equals("MAX") ? Integer.MAX_VALUE : Integer.parseInt(word);
    }

    boolean changes() {
        return CHANGES.contains(what);
    }

    /** Whether it is a call that would change something, and answers that it does not. */
    boolean isRefused() {
        return changes() && due < 0;
    }

    int on(StreamCarrier x) {
        switch (what) {
            case "shape": return x.shape(n[0], n[1], n[2]);
            case "write": return x.write(n[0], n[1]);
            case "end": return x.end(n[0]);
            case "cut": return x.cut(n[0]);
            case "read": return x.read(n[0], n[1]);
            case "move": return x.move();
            case "send": return x.send(n[0]);
            case "come": return x.come(n[0]);
            case "drop": return x.drop(n[0]);
            case "twice": return x.twice(n[0]);
            case "tick": return x.tick(n[0]);
            case "stream": return x.stream(n[0], n[1]);
            case "state": return x.state(n[0], n[1]);
            case "side": return x.side(n[0], n[1]);
            case "packet": return x.packet(n[0], n[1], n[2]);
            case "part": return x.part(n[0], n[1], n[2], n[3]);
            case "net": return x.net(n[0], n[1]);
            case "told": return x.told(n[0]);
            default: throw new IllegalStateException("no such call: " + what);
        }
    }

    int on(Model x) {
        switch (what) {
            case "shape": return x.shape(n[0], n[1], n[2]);
            case "write": return x.write(n[0], n[1]);
            case "end": return x.end(n[0]);
            case "cut": return x.cut(n[0]);
            case "read": return x.read(n[0], n[1]);
            case "move": return x.move();
            case "send": return x.send(n[0]);
            case "come": return x.come(n[0]);
            case "drop": return x.drop(n[0]);
            case "twice": return x.twice(n[0]);
            case "tick": return x.tick(n[0]);
            case "stream": return x.stream(n[0], n[1]);
            case "state": return x.state(n[0], n[1]);
            case "side": return x.side(n[0], n[1]);
            case "packet": return x.packet(n[0], n[1], n[2]);
            case "part": return x.part(n[0], n[1], n[2], n[3]);
            case "net": return x.net(n[0], n[1]);
            case "told": return x.told(n[0]);
            default: throw new IllegalStateException("no such call: " + what);
        }
    }

    @Override
    public String toString() {
        StringBuilder text = new StringBuilder(what);
        for (int one : n) {
            text.append(' ').append(one);
        }
        return text.toString();
    }
}
