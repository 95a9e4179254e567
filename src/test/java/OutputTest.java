/** Promises 11 to 13: plain, write and output. */
public final class OutputTest {
    private static final Check CHECK = new Check();

    public static void main(String[] args) {
        plain();
        noSuchNode();
        written();
        writtenSigns();
        writtenLabels();
        output();
        longest();
        deepest();
        CHECK.end();
    }

    private static void duePlain(String text, int k, String want) {
        MarkInlines x = Check.with(text);
        x.read();
        CHECK.due("plain(" + k + ") of " + text, x.plain(k), want.codePointCount(0, want.length()));
        CHECK.due("plain(" + k + ") of " + text, Check.output(x), want);
    }

    private static void plain() {
        duePlain("a<&\">", 0, "a<&\">");
        duePlain("`a<`", 0, "a<");
        duePlain("\n", 0, " ");
        duePlain("  \n", 0, " ");
        duePlain("*a **b**\n`c`  \nd* e", 0, "a b c d");
        duePlain("*a **b** c* d", 2, "b");
        duePlain("[a ![b\nc](u 't') d](v)", 0, "a b c d");
        duePlain("[a ![b\nc](u 't') d](v)", 2, "b c");
        duePlain("[](u)", 0, "");
        duePlain("<a@b> c", 0, "a@b");
        duePlain("*a* b", 2, " b");
        duePlain("a\nb", 0, "a");
        duePlain("*a*`b`", 0, "a");
        duePlain("&#1114111;&euro;", 0, new StringBuilder().appendCodePoint(1114111).append('\u20AC').toString());
    }

    private static void noSuchNode() {
        MarkInlines x = Check.with("*a*");
        x.read();
        x.plain(0);
        int[] none = {-1, 2, Integer.MIN_VALUE, Integer.MAX_VALUE};
        for (int k : none) {
            CHECK.dueThrow("plain(" + k + ")", () -> x.plain(k), IndexOutOfBoundsException.class);
            CHECK.due("the output stays", Check.output(x), "a");
        }
    }

    private static void written() {
        CHECK.dueWritten("", "");
        CHECK.dueWritten("a\nb  \nc\\\n", "a\nb<br/>\nc<br/>\n");
        CHECK.dueWritten("`a` *b* **c**", "<code>a</code> <em>b</em> <strong>c</strong>");
        CHECK.dueWritten("*a **b***c", "<em>a <strong>b</strong></em>c");
        CHECK.dueWritten("[a](u)", "<a href=\"u\">a</a>");
        CHECK.dueWritten("[a](u '')", "<a href=\"u\">a</a>");
        CHECK.dueWritten("[a](u 't')", "<a href=\"u\" title=\"t\">a</a>");
        CHECK.dueWritten("[*a*](<> 't')", "<a href=\"\" title=\"t\"><em>a</em></a>");
        CHECK.dueWritten("[](u)", "<a href=\"u\"></a>");
        CHECK.dueWritten("![a](u)", "<img src=\"u\" alt=\"a\"/>");
        CHECK.dueWritten("![a](u '')", "<img src=\"u\" alt=\"a\"/>");
        CHECK.dueWritten("![](u 't')", "<img src=\"u\" alt=\"\" title=\"t\"/>");
        CHECK.dueWritten("![*a*\n`b` ![c](v) [d](w)  \ne](u 't')*f*",
                "<img src=\"u\" alt=\"a b c d e\" title=\"t\"/><em>f</em>");
        CHECK.dueWritten("*![a](u)*", "<em><img src=\"u\" alt=\"a\"/></em>");
        CHECK.dueWritten("<ab:c> <a@b>", "<a href=\"ab:c\">ab:c</a> <a href=\"mailto:a@b\">a@b</a>");
    }

    private static void writtenSigns() {
        CHECK.dueWritten("&<>\"'", "&amp;&lt;&gt;&quot;'");
        CHECK.dueWritten("`&<>\"'`", "<code>&amp;&lt;&gt;&quot;'</code>");
        CHECK.dueWritten("[a](&\\<\\>\"' '&<>\"')",
                "<a href=\"&amp;&lt;&gt;&quot;'\" title=\"&amp;&lt;&gt;&quot;\">a</a>");
        CHECK.dueWritten("![&<\\>\"`>`](&\" '\"')",
                "<img src=\"&amp;&quot;\" alt=\"&amp;&lt;&gt;&quot;&gt;\" title=\"&quot;\"/>");
        CHECK.dueWritten("&amp;lt; &euro; \u00E4 &nbsp;", "&amp;lt; \u20AC \u00E4 \u00A0");
    }

    private static void writtenLabels() {
        String[] labels = new String[20];
        StringBuilder text = new StringBuilder();
        StringBuilder want = new StringBuilder();
        for (int i = 0; i < 20; i++) {
            String label = "" + (char) ('a' + i);
            labels[i] = label;
            text.append("[").append(label).append("] ![").append(label).append("] ");
            want.append("<a href=\"#").append(i).append("\">").append(label).append("</a> ");
            want.append("<img src=\"#").append(i).append("\" alt=\"").append(label).append("\"/> ");
        }
        CHECK.dueWritten(text.toString(), want.toString(), labels);
    }

    private static void output() {
        MarkInlines x = Check.with("*a*");
        x.read();
        CHECK.due("output(0) ahead of any", x.output(0), -1);
        CHECK.due("write()", x.write(), 10);
        CHECK.due("output(0)", x.output(0), '<');
        CHECK.due("output(9)", x.output(9), '>');
        int[] none = {-1, 10, Integer.MIN_VALUE, Integer.MAX_VALUE};
        for (int i : none) {
            CHECK.due("output(" + i + ")", x.output(i), -1);
        }
        CHECK.due("plain(1)", x.plain(1), 1);
        CHECK.due("output(0)", x.output(0), 'a');
        CHECK.due("output(1)", x.output(1), -1);
        Check.load(x, "bc");
        x.read();
        CHECK.due("read() leaves the output", Check.output(x), "a");
        x.drop();
        x.wipe();
        CHECK.due("and so do drop() and wipe()", Check.output(x), "a");
        CHECK.due("write() again", x.write(), 2);
        CHECK.due("write() once more", x.write(), 2);
        CHECK.due("the output", Check.output(x), "bc");
    }

    private static void longest() {
        String signs = "\"".repeat(1495);
        String both = "ab:" + "&quot;".repeat(1495);
        CHECK.dueWritten("<ab:" + signs + ">", "<a href=\"" + both + "\">" + both + "</a>");
        CHECK.dueWritten("\"".repeat(1500), "&quot;".repeat(1500));
        CHECK.dueWritten("[\"]\"".repeat(375), "<a href=\"#0\">&quot;</a>&quot;".repeat(375), "\"");
        CHECK.dueWritten("![\"]\"".repeat(300), "<img src=\"#0\" alt=\"&quot;\"/>&quot;".repeat(300), "\"");
    }

    /** Twenty deep, all of which end at one place. */
    private static void deepest() {
        String opening = "*a _b ".repeat(9) + "*a ";
        String closing = "*" + "_*".repeat(9);
        String begun = "<em>a <em>b ".repeat(9) + "<em>a ";
        CHECK.dueWritten(opening + "[](u)" + closing, begun + "<a href=\"u\"></a>" + "</em>".repeat(19));
        CHECK.dueWritten(opening + "[](u)" + closing + " c", begun + "<a href=\"u\"></a>" + "</em>".repeat(19) + " c");
        CHECK.dueWritten(opening + "[b](u)" + closing, "fault 3 at -1");
    }
}
