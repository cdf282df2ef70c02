import java.util.List;

/**
 * All that is told of an object. An object of the program is asked no more than 512 calls, the row of calls that
 * leads to what is looked at among them: behind these the row is called again on a new object.
 */
final class Look {
    private final List<Call> row;
    private final Model model;
    private final StringBuilder all = new StringBuilder();
    private StreamCarrier x;
    private int left;

    private Look(List<Call> row, Model model) {
        this.row = row;
        this.model = model;
    }

    /** What is told behind a row of calls, a line a thing; no text, if the row leaves too few calls to ask. */
    static String at(List<Call> row) {
        return row.size() > Rows.CALLS_AT_MOST - 20 ? "" : new Look(row, null).everything();
    }

    static String at(Model model) {
        return new Look(null, model).everything();
    }

    private int ask(String what, int... n) {
        Call call = new Call(what, n, 0);
        if (model != null) {
            return call.on(model);
        }
        if (left == 0) {
            x = new StreamCarrier();
            for (Call before : row) {
                before.on(x);
            }
            left = Rows.CALLS_AT_MOST - row.size();
        }
        left--;
        return call.on(x);
    }

    private int tell(String what, int... n) {
        int answer = ask(what, n);
        all.append(' ').append(answer);
        return answer;
    }

    private void line(String what, int... n) {
        all.append('\n').append(what);
        for (int one : n) {
            all.append(' ').append(one);
        }
        all.append(':');
    }

    private String everything() {
        line("told");
        for (int what = -1; what <= 8; what++) {
            tell("told", what);
        }
        for (int s = -1; s <= 8; s++) {
            line("stream", s);
            for (int what = -1; what <= 15; what++) {
                tell("stream", s, what);
            }
            line("state", s);
            // What lies beyond is never sent, and has not come: the last byte stands for it.
            for (int i = Math.min(999, Math.max(0, ask("stream", s, 3)) + 1); i >= -1; i--) {
                tell("state", s, i);
            }
            tell("state", s, 999);
            tell("state", s, 1000);
        }
        for (int side = -1; side <= 2; side++) {
            line("side", side);
            for (int what = -1; what <= 17; what++) {
                tell("side", side, what);
            }
            int sent = ask("side", side, 0);
            for (int number = -1; number <= sent; number++) {
                packet(side, number);
            }
        }
        int underWay = ask("told", 1);
        for (int i = -1; i <= underWay; i++) {
            line("net", i);
            for (int what = -1; what <= 2; what++) {
                tell("net", i, what);
            }
        }
        return all.toString();
    }

    private void packet(int side, int number) {
        line("packet", side, number);
        for (int what = -1; what <= 8; what++) {
            tell("packet", side, number, what);
        }
        int parts = ask("packet", side, number, 3);
        for (int k = -1; k <= parts; k++) {
            line("part", side, number, k);
            for (int what = -1; what <= 12; what++) {
                tell("part", side, number, k, what);
            }
        }
    }

    /** The first line in which two looks differ, both of them. */
    static String difference(String one, String other) {
        String[] a = one.split("\n");
        String[] b = other.split("\n");
        for (int i = 0; i < Math.max(a.length, b.length); i++) {
            String first = i < a.length ? a[i] : "nothing";
            String second = i < b.length ? b[i] : "nothing";
            if (!first.equals(second)) {
                return first + " / " + second;
            }
        }
        return "nothing";
    }
}
