import java.util.ArrayList;
import java.util.List;

/** Runs of calls told in rows (Call says how), each on new objects. */
final class Rows {
    /** An object is used for so many calls: what later ones answer is free. */
    static final int CALLS_AT_MOST = 512;

    private static int runs = 0;
    private static int wrong = 0;

    static {
        Watch.start();
    }

    private Rows() {
    }

    /**
     * Each call of the rows answers what is due; so it does where the refused ones are left out, and where these, and
     * those that only tell, are called twice. Of a refused one all that is told behind it is as it was before.
     */
    static void run(String name, String... rows) {
        runs++;
        List<Call> calls = Call.read(rows);
        if (calls.size() > CALLS_AT_MOST) {
            fault(name + ": " + calls.size() + " calls on one object");
        }
        answers(name, calls);
        List<Call> accepted = new ArrayList<>();
        List<Call> twice = new ArrayList<>();
        for (Call call : calls) {
            if (!call.isRefused()) {
                accepted.add(call);
            }
            twice.add(call);
            if (call.isRefused() || !call.changes()) {
                twice.add(call);
            }
        }
        if (accepted.size() < calls.size()) {
            answers(name + ", without what is refused", accepted);
        }
        if (twice.size() <= CALLS_AT_MOST) {
            answers(name + ", asked twice", twice);
        }
        refusedChangeNothing(name, calls);
    }

    private static void answers(String name, List<Call> calls) {
        StreamCarrier x = new StreamCarrier();
        for (int i = 0; i < calls.size(); i++) {
            int answer = calls.get(i).on(x);
            if (answer != calls.get(i).due) {
                fault(name + ": call " + (i + 1) + ", " + calls.get(i) + ", answered " + answer + ", due is "
                    + calls.get(i).due);
            }
        }
    }

    private static void refusedChangeNothing(String name, List<Call> calls) {
        List<Call> row = new ArrayList<>();
        String before = null;
        for (Call call : calls) {
            if (call.isRefused()) {
                before = before == null ? Look.at(row) : before;
                row.add(call);
                String behind = Look.at(row);
                if (!before.isEmpty() && !behind.isEmpty() && !before.equals(behind)) {
                    fault(name + ": " + call + " changed something: " + Look.difference(before, behind));
                }
            } else if (call.changes()) {
                row.add(call);
                before = null;
            }
        }
    }

    static void fault(String text) {
        wrong++;
        if (wrong <= 50) {
            System.out.println(text);
        }
    }

    /** "from from+1 .. to", as a row's answers. */
    static String numbers(int from, int to) {
        StringBuilder text = new StringBuilder();
        for (int n = from; n <= to; n++) {
            text.append(n).append(' ');
        }
        return text.toString().trim();
    }

    /** Ends the test: with exit code 1, if an answer was not the one that is due. */
    static void close() {
        System.out.println(runs + " runs, " + wrong + " faults");
        if (wrong != 0) {
            System.exit(1);
        }
    }
}
