import java.io.IOException;
import java.lang.reflect.Field;
import java.lang.reflect.Method;
import java.lang.reflect.Modifier;
import java.nio.file.Files;
import java.nio.file.Path;
import java.util.List;
import java.util.function.IntUnaryOperator;
import java.util.regex.Matcher;
import java.util.regex.Pattern;

/** What README.md says of the program holds: its runs answer as it says, and it names all that can be asked. */
public final class ReadmeTest {
    private static final Pattern CALL = Pattern.compile("x\\.(\\w+)\\(([-0-9, ]*)\\); +// (-?\\d+|[A-Z]+)(:.*)?");
    private static final List<String> CONSTANTS = List.of("UNKNOWN", "OUTSIDE", "STATE", "FULL", "NO", "NONE");
    private static final List<String> KINDS = List.of("TOLD", "BOUND |", "BOUND OF ALL", "BYTES", "CUT OFF", "ASK",
        "ANSWER", "PING");
    private static final String NEW = "StreamCarrier x = new StreamCarrier();";

    private ReadmeTest() {
    }

    public static void main(String[] args) throws IOException, IllegalAccessException {
        String text = Files.readString(Path.of("README.md"));
        runs(text);
        names(text);
        StreamCarrier x = oneThatHasSent();
        whats(text, "stream", "state", what -> x.stream(0, what));
        whats(text, "side", "packet", what -> x.side(0, what));
        whats(text, "packet", "part", what -> x.packet(0, 0, what));
        kinds(text);
        whats(text, "net", "told", what -> x.net(0, what));
        whats(text, "told", null, x::told);
        Rows.close();
    }

    private static void runs(String text) {
        String[] pieces = text.split("```java\n");
        check(pieces.length == 5, "there are four runs, not " + (pieces.length - 1));
        for (int i = 1; i < pieces.length; i++) {
            String[] lines = pieces[i].substring(0, pieces[i].indexOf("```")).split("\n");
            check(lines[0].equals(NEW), "run " + i + " begins with a new object");
            String[] rows = new String[lines.length - 1];
            for (int k = 1; k < lines.length; k++) {
                rows[k - 1] = row(lines[k]);
            }
            Rows.run("README.md, run " + i, rows);
        }
    }

    /** "x.read(0, 100);  // 100: so many are read" as "read 0 100 = 100". */
    private static String row(String line) {
        Matcher m = CALL.matcher(line);
        if (!m.matches()) {
            check(false, "not a call with its answer: " + line);
            return "";
        }
        int constant = CONSTANTS.indexOf(m.group(3));
        String due = constant < 0 ? m.group(3) : String.valueOf(-1 - constant);
        return m.group(1) + " " + m.group(2).replace(",", "") + " = " + due;
    }

    private static void names(String text) throws IllegalAccessException {
        for (Method m : StreamCarrier.class.getDeclaredMethods()) {
            check(!Modifier.isPublic(m.getModifiers()) || text.contains("\n`" + m.getName() + "(")
                || text.contains("\n| `" + m.getName() + "("), "README.md does not say what " + m.getName() + " does");
        }
        for (Field f : StreamCarrier.class.getDeclaredFields()) {
            check(!Modifier.isPublic(f.getModifiers()) || text.contains("`" + f.getName() + "` | " + f.getInt(null))
                || text.contains("`" + f.getName() + "` (" + f.getInt(null) + ")"),
                "README.md does not say what " + f.getName() + " is");
        }
    }

    private static StreamCarrier oneThatHasSent() {
        StreamCarrier x = new StreamCarrier();
        x.write(0, 1);
        check(x.send(0) == 0, "a PACKET is under way");
        return x;
    }

    /** Each what that is not OUTSIDE stands, in a table or as a word, ahead of what is said of the next call. */
    private static void whats(String text, String call, String next, IntUnaryOperator answer) {
        int start = text.indexOf("\n`" + call + "(");
        int stop = next == null ? text.indexOf("\n## ", start) : text.indexOf("\n`" + next + "(");
        check(start >= 0 && stop > start, "README.md tells of " + call + " ahead of " + next);
        String said = start < 0 || stop < start ? "" : text.substring(start, stop);
        String sign = said.contains("| what |") ? "\\| %d \\|" : "\\s%d\\s";
        for (int what = 0; what < 20; what++) {
            boolean names = Pattern.compile(String.format(sign, what)).matcher(said).find();
            check(names || answer.applyAsInt(what) == StreamCarrier.OUTSIDE,
                "README.md does not say what " + call + "(.., " + what + ") is");
        }
    }

    private static void kinds(String text) {
        for (int kind = 1; kind <= 8; kind++) {
            check(text.contains("\n| " + kind + " | " + KINDS.get(kind - 1)), "README.md does not tell of " + kind);
        }
    }

    private static void check(boolean is, String what) {
        if (!is) {
            Rows.fault(what);
        }
    }
}
