import java.util.function.IntSupplier;

/** What the tests share: texts put on the tape, answers told as texts, and the count of wrong ones. */
final class Check {
    private int wrong = 0;
    private int told = 0;

    void due(String call, long got, long want) {
        due(call, Long.toString(got), Long.toString(want));
    }

    void due(String call, String got, String want) {
        told++;
        if (!got.equals(want)) {
            wrong++;
            System.out.println(shown(call) + " answered " + shown(got) + ", due is " + shown(want));
        }
    }

    private static String shown(String text) {
        String line = text.replace("\n", "\\n");
        return line.length() <= 300 ? line : line.substring(0, 300) + " ..";
    }

    /** That a call throws just this class of exception. */
    void dueThrow(String call, IntSupplier answer, Class<?> want) {
        String got;
        try {
            got = Integer.toString(answer.getAsInt());
        } catch (RuntimeException e) {
            got = e.getClass().getName();
        }
        due(call, got, want.getName());
    }

    /** That a text, with these labels defined, is written so (or has this fault). */
    void dueWritten(String text, String want, String... labels) {
        MarkInlines x = new MarkInlines();
        for (String label : labels) {
            load(x, label);
            x.define();
        }
        load(x, text);
        due(text, readAndWritten(x), want);
    }

    /** That a text, with these labels defined, has these nodes (see nodes). */
    void dueNodes(String text, String want, String... labels) {
        MarkInlines x = new MarkInlines();
        for (String label : labels) {
            load(x, label);
            x.define();
        }
        load(x, text);
        x.read();
        due("nodes of " + text, nodes(x), want);
    }

    void end() {
        System.out.println(told + " answers, " + wrong + " of them not as due");
        if (wrong > 0 || told == 0) {
            System.exit(1);
        }
    }

    static MarkInlines with(String text) {
        MarkInlines x = new MarkInlines();
        load(x, text);
        return x;
    }

    /** Makes the text all that is on the tape. */
    static void load(MarkInlines x, String text) {
        x.wipe();
        for (int from = 0; from < text.length(); from += 20) {
            int[] words = new int[5];
            int n = Math.min(20, text.length() - from);
            for (int i = 0; i < n; i++) {
                words[i / 4] |= text.charAt(from + i) << (24 - 8 * (i % 4));
            }
            x.feed(words[0], words[1], words[2], words[3], words[4]);
            if (x.end(n) != from + n) {
                throw new IllegalStateException("the tape did not take the text");
            }
        }
    }

    /** What is written after a read, or "fault F at P". */
    static String readAndWritten(MarkInlines x) {
        try {
            x.read();
        } catch (IllegalArgumentException e) {
            return "fault " + x.fault(0) + " at " + x.fault(1);
        }
        int length = x.write();
        String written = output(x);
        boolean asAnswered = written.codePointCount(0, written.length()) == length;
        return asAnswered ? written : "not of the length answered: " + written;
    }

    static String output(MarkInlines x) {
        StringBuilder text = new StringBuilder();
        for (int i = 0; x.output(i) != MarkInlines.NONE; i++) {
            text.appendCodePoint(x.output(i));
        }
        return text.toString();
    }

    /** All that an object tells of itself, so that a call that is refused can be seen to change none of it. */
    static String state(MarkInlines x) {
        StringBuilder all = new StringBuilder();
        for (int what = 0; what < 4; what++) {
            all.append(x.about(what)).append(' ');
        }
        all.append(x.fault(0)).append(' ').append(x.fault(1)).append(' ');
        return all.append(nodes(x)).append(' ').append(output(x)).toString();
    }

    /** All nodes: KIND@holder/depth, ="text" (or target), ~"title", #definition. */
    static String nodes(MarkInlines x) {
        String[] kinds = {"TEXT", "SOFT", "HARD", "CODING", "EMPHASIS", "STRONG", "LINK", "IMAGE"};
        StringBuilder all = new StringBuilder();
        for (int k = 0; k < x.about(2); k++) {
            all.append(k == 0 ? "" : " ").append(kinds[x.node(k, 0)]);
            all.append('@').append(x.node(k, 1)).append('/').append(x.node(k, 5));
            if (x.node(k, 2) > 0) {
                all.append("=\"").append(letters(x, k, false)).append('"');
            }
            if (x.node(k, 3) > 0) {
                all.append("~\"").append(letters(x, k, true)).append('"');
            }
            if (x.node(k, 4) != MarkInlines.NONE) {
                all.append('#').append(x.node(k, 4));
            }
        }
        return all.toString();
    }

    static String letters(MarkInlines x, int k, boolean title) {
        StringBuilder text = new StringBuilder();
        int size = x.node(k, title ? 3 : 2);
        for (int i = 0; i < size; i++) {
            text.appendCodePoint(x.letter(k, title, i));
        }
        return text.toString();
    }
}
