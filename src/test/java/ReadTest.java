/** Promises 7 and 8: read and fault. */
public final class ReadTest {
    private static final Check CHECK = new Check();

    public static void main(String[] args) {
        howMany();
        theTapeStays();
        faultsOfReferences();
        faultsOfRawMarks();
        theFurtherLeft();
        tooDeep();
        nothingIsRead();
        otherWhats();
        CHECK.end();
    }

    private static void howMany() {
        CHECK.due("read() of nothing", Check.with("").read(), 0);
        CHECK.due("read() of a", Check.with("a").read(), 1);
        CHECK.due("read() of *a*", Check.with("*a*").read(), 2);
        CHECK.due("read() of 1500 lines", Check.with("\n".repeat(1500)).read(), 1500);
    }

    private static void theTapeStays() {
        MarkInlines x = Check.with("*a*");
        x.read();
        CHECK.due("about(0)", x.about(0), 3);
        CHECK.due("read() again", x.read(), 2);
        x.feed(0x62000000, 0, 0, 0, 0);
        x.end(1);
        CHECK.due("what was read stays", Check.nodes(x), "EMPHASIS@-1/1 TEXT@0/2=\"a\"");
        CHECK.due("read() of more", x.read(), 3);
        MarkInlines full = Check.with("<a@b>".repeat(300));
        for (int i = 0; i < 20; i++) {
            CHECK.due("read() of a full tape, time " + i, full.read(), 600);
            CHECK.due("its last letter, time " + i, full.letter(599, false, 2), 'b');
            CHECK.due("its last target, time " + i, full.letter(598, false, 9), 'b');
        }
    }

    private static void faultsOfReferences() {
        int[] forbidden = {1, 8, 11, 12, 14, 31, 65534, 65535};
        for (int c : forbidden) {
            CHECK.dueWritten("ab&#" + c + ";", "fault 1 at 2");
            CHECK.dueWritten("&#x" + Integer.toHexString(c) + ";", "fault 1 at 0");
        }
        CHECK.dueWritten("&#9;&#10;&#13;&#32;&#65533;&#65536;", "\t\n\r \uFFFD\uD800\uDC00");
        CHECK.dueWritten("`&#1;` \\&#1; [a](&#1;) \1", "<code>&amp;#1;</code> &amp;#1; <a href=\"\uFFFD\">a</a> \1");
    }

    private static void faultsOfRawMarks() {
        CHECK.dueWritten("a <b>", "fault 2 at 2");
        CHECK.dueWritten("</b>", "fault 2 at 0");
        CHECK.dueWritten("<!>", "fault 2 at 0");
        CHECK.dueWritten("<?\n`>`", "fault 2 at 0");
        CHECK.dueWritten("<Z ![a](>)", "fault 2 at 0");
        CHECK.dueWritten("<b", "&lt;b");
        CHECK.dueWritten("> <b", "&gt; &lt;b");
        CHECK.dueWritten("</>", "&lt;/&gt;");
        CHECK.dueWritten("</1> <1> < b> <>", "&lt;/1&gt; &lt;1&gt; &lt; b&gt; &lt;&gt;");
        CHECK.dueWritten("<\u00E4>", "&lt;\u00E4&gt;");
        CHECK.dueWritten("\\<b> `<b>` [a](<b>)", "&lt;b&gt; <code>&lt;b&gt;</code> <a href=\"b\">a</a>");
        CHECK.dueWritten("[a](<b> c)", "fault 2 at 4");
    }

    private static void theFurtherLeft() {
        CHECK.dueWritten("a &#1; <b>", "fault 1 at 2");
        CHECK.dueWritten("a <b> &#1;", "fault 2 at 2");
        CHECK.dueWritten("*".repeat(41) + "a" + "*".repeat(41) + " <b>", "fault 2 at 84");
    }

    private static void tooDeep() {
        CHECK.due("19 deep and a text", Check.with(nested(19)).read(), 56);
        CHECK.dueWritten(nested(20), "fault 3 at -1");
        CHECK.due("20 images, no text", Check.with("![".repeat(20) + "](u)".repeat(20)).read(), 20);
        CHECK.dueWritten("![".repeat(21) + "](u)".repeat(21), "fault 3 at -1");
        CHECK.dueWritten("![".repeat(20) + "`a`" + "](u)".repeat(20), "fault 3 at -1");
        CHECK.dueWritten("![".repeat(20) + "\n" + "](u)".repeat(20), "fault 3 at -1");
        CHECK.dueWritten("![".repeat(19) + "<ab:>" + "](u)".repeat(19), "fault 3 at -1");
        CHECK.due("one of 40 signs is 20 STRONG", Check.with("*".repeat(38) + "a" + "*".repeat(38)).read(), 20);
        CHECK.dueWritten("*".repeat(40) + "a" + "*".repeat(40), "fault 3 at -1");
        CHECK.due("brackets alone are not deep", Check.with("[".repeat(700) + "]".repeat(700)).read(), 1);
    }

    private static String nested(int depth) {
        return "*a ".repeat(depth) + "b" + " a*".repeat(depth);
    }

    private static void nothingIsRead() {
        MarkInlines x = Check.with("*a*");
        x.read();
        x.write();
        Check.load(x, "<b>");
        CHECK.dueThrow("read() of a fault", x::read, IllegalArgumentException.class);
        CHECK.due("about(2)", x.about(2), -1);
        CHECK.due("node(0, 0)", x.node(0, 0), -1);
        CHECK.due("letter(1, false, 0)", x.letter(1, false, 0), -1);
        CHECK.dueThrow("plain(0)", () -> x.plain(0), IndexOutOfBoundsException.class);
        CHECK.dueThrow("write()", x::write, IllegalStateException.class);
        CHECK.due("the tape stays", x.about(0), 3);
        CHECK.due("the output stays", Check.output(x), "<em>a</em>");
        Check.load(x, nested(20));
        CHECK.dueThrow("read() of what is too deep", x::read, IllegalArgumentException.class);
        CHECK.due("about(2)", x.about(2), -1);
        CHECK.due("node(0, 0)", x.node(0, 0), -1);
        Check.load(x, "a");
        CHECK.due("read() then", x.read(), 1);
        CHECK.due("fault(0) then", x.fault(0), 0);
        CHECK.due("fault(1) then", x.fault(1), -1);
    }

    private static void otherWhats() {
        MarkInlines x = Check.with("a<b>");
        CHECK.dueThrow("read()", x::read, IllegalArgumentException.class);
        CHECK.due("fault(0)", x.fault(0), 2);
        CHECK.due("fault(1)", x.fault(1), 1);
        x.wipe();
        CHECK.due("fault(0) behind wipe()", x.fault(0), 2);
        int[] wrong = {-1, 2, 3, Integer.MIN_VALUE, Integer.MAX_VALUE};
        for (int what : wrong) {
            CHECK.due("fault(" + what + ")", x.fault(what), -1);
        }
    }
}
