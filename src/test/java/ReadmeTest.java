import java.io.IOException;
import java.nio.file.Files;
import java.nio.file.Path;
import java.util.regex.Matcher;
import java.util.regex.Pattern;

/** Makes the calls that README.md shows, one behind the other, and compares the answers that stand behind them. */
public final class ReadmeTest {
    private static final Pattern SHOWN = Pattern.compile("inlines\\.(\\w+)\\((.*?)\\); *(?:// (.*))?");

    private static final Check CHECK = new Check();
    private static final MarkInlines X = new MarkInlines();

    public static void main(String[] args) throws IOException {
        int shown = 0;
        for (String line : Files.readAllLines(Path.of("README.md"))) {
            if (line.startsWith("inlines.")) {
                shown++;
                compare(line);
            }
        }
        CHECK.due("how many calls README.md shows", shown, 26);
        CHECK.end();
    }

    private static void compare(String line) {
        Matcher call = SHOWN.matcher(line);
        if (!call.matches()) {
            CHECK.due(line, "not understood", "a call");
            return;
        }
        String[] given = call.group(2).isEmpty() ? new String[0] : call.group(2).split(", ");
        String[] comment = (call.group(3) == null ? "" : call.group(3)).split(": ", 2);
        String got;
        try {
            got = answer(call.group(1), given);
        } catch (RuntimeException e) {
            got = e.getClass().getSimpleName();
        }
        CHECK.due(line, got, comment[0]);
        if (call.group(1).equals("write") && comment.length > 1) {
            CHECK.due("the output of " + line, Check.output(X), comment[1]);
        }
    }

    private static String answer(String name, String[] given) {
        switch (name) {
            case "feed":
                X.feed(number(given, 0), number(given, 1), number(given, 2), number(given, 3), number(given, 4));
                return spelled(given);
            case "wipe":
                X.wipe();
                return "";
            case "end":
                return "" + X.end(number(given, 0));
            case "define":
                return "" + X.define();
            case "read":
                return "" + X.read();
            case "fault":
                return "" + X.fault(number(given, 0));
            case "node":
                return "" + X.node(number(given, 0), number(given, 1));
            case "letter":
                return "" + X.letter(number(given, 0), Boolean.parseBoolean(given[1]), number(given, 2));
            case "plain":
                return "" + X.plain(number(given, 0));
            case "write":
                return "" + X.write();
            case "output":
                return "" + X.output(number(given, 0));
            default:
                return "" + X.about(number(given, 0));
        }
    }

    /** The characters of numbers, up to the first 0. */
    private static String spelled(String[] given) {
        StringBuilder text = new StringBuilder();
        for (int i = 0; i < 4 * given.length; i++) {
            text.append((char) (number(given, i / 4) >>> (24 - 8 * (i % 4)) & 255));
        }
        return text.substring(0, text.indexOf("\0"));
    }

    private static int number(String[] given, int i) {
        return Long.decode(given[i]).intValue();
    }
}
