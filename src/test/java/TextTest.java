/** What promise 7 reads outside runs and links: line ends, escapes, code, addresses, references. */
public final class TextTest {
    private static final Check CHECK = new Check();

    public static void main(String[] args) {
        lineEnds();
        escapes();
        coding();
        addresses();
        mails();
        references();
        CHECK.end();
    }

    private static void lineEnds() {
        CHECK.dueNodes("a\nb", "TEXT@-1/1=\"a\" SOFT@-1/1 TEXT@-1/1=\"b\"");
        CHECK.dueNodes("a \nb", "TEXT@-1/1=\"a\" SOFT@-1/1 TEXT@-1/1=\"b\"");
        CHECK.dueNodes("a  \nb", "TEXT@-1/1=\"a\" HARD@-1/1 TEXT@-1/1=\"b\"");
        CHECK.dueNodes("a     \n  b", "TEXT@-1/1=\"a\" HARD@-1/1 TEXT@-1/1=\"  b\"");
        CHECK.dueNodes("  \n \n\n", "HARD@-1/1 SOFT@-1/1 SOFT@-1/1");
        CHECK.dueNodes("a\t\t\nb", "TEXT@-1/1=\"a\t\t\" SOFT@-1/1 TEXT@-1/1=\"b\"");
        CHECK.dueNodes("a\r\n", "TEXT@-1/1=\"a\r\" SOFT@-1/1");
        CHECK.dueNodes("a&#32;\nb", "TEXT@-1/1=\"a \" SOFT@-1/1 TEXT@-1/1=\"b\"");
        CHECK.dueNodes("a&#32; \nb", "TEXT@-1/1=\"a \" SOFT@-1/1 TEXT@-1/1=\"b\"");
        CHECK.dueNodes("a&#32;  \nb", "TEXT@-1/1=\"a \" HARD@-1/1 TEXT@-1/1=\"b\"");
        CHECK.dueNodes("a  ", "TEXT@-1/1=\"a  \"");
        CHECK.dueNodes("a  \n", "TEXT@-1/1=\"a\" HARD@-1/1");
        CHECK.dueNodes("*a*  \nb", "EMPHASIS@-1/1 TEXT@0/2=\"a\" HARD@-1/1 TEXT@-1/1=\"b\"");
        CHECK.dueNodes("[ \n](u)", "LINK@-1/1=\"u\" SOFT@0/2");
    }

    private static void escapes() {
        CHECK.dueNodes("a\\\nb", "TEXT@-1/1=\"a\" HARD@-1/1 TEXT@-1/1=\"b\"");
        CHECK.dueNodes("a  \\\n\nb", "TEXT@-1/1=\"a  \" HARD@-1/1 SOFT@-1/1 TEXT@-1/1=\"b\"");
        for (int c = 0; c < 256; c++) {
            boolean punctuation = c > 32 && c < 127 && !Character.isLetterOrDigit(c);
            if (c != 10) {
                String want = (punctuation ? "" : "\\") + (char) c;
                CHECK.dueNodes("\\" + (char) c, "TEXT@-1/1=\"" + want + "\"");
            }
        }
        CHECK.dueNodes("\\", "TEXT@-1/1=\"\\\"");
        CHECK.dueNodes("\\\\*a*", "TEXT@-1/1=\"\\\" EMPHASIS@-1/1 TEXT@1/2=\"a\"");
        CHECK.dueNodes("\\`a`", "TEXT@-1/1=\"`a`\"");
        CHECK.dueNodes("\\![a](u)", "TEXT@-1/1=\"!\" LINK@-1/1=\"u\" TEXT@1/2=\"a\"");
    }

    private static void coding() {
        CHECK.dueNodes("`a`", "CODING@-1/1=\"a\"");
        CHECK.dueNodes("``a`b``", "CODING@-1/1=\"a`b\"");
        CHECK.dueNodes("`a``b`", "CODING@-1/1=\"a``b\"");
        CHECK.dueNodes("``a`b", "TEXT@-1/1=\"``a`b\"");
        CHECK.dueNodes("```a``b`c`", "TEXT@-1/1=\"```a``b\" CODING@-1/1=\"c\"");
        CHECK.dueNodes("\\``a`", "TEXT@-1/1=\"`\" CODING@-1/1=\"a\"");
        CHECK.dueNodes("`a\\`", "CODING@-1/1=\"a\\\"");
        CHECK.dueNodes("` a `", "CODING@-1/1=\"a\"");
        CHECK.dueNodes("`  a  `", "CODING@-1/1=\" a \"");
        CHECK.dueNodes("` a`", "CODING@-1/1=\" a\"");
        CHECK.dueNodes("`a `", "CODING@-1/1=\"a \"");
        CHECK.dueNodes("` `", "CODING@-1/1=\" \"");
        CHECK.dueNodes("`   `", "CODING@-1/1=\"   \"");
        CHECK.dueNodes("`\n\n`", "CODING@-1/1=\"  \"");
        CHECK.dueNodes("`\na  \nb\n`", "CODING@-1/1=\"a   b\"");
        CHECK.dueNodes("`\ta\t`", "CODING@-1/1=\"\ta\t\"");
        CHECK.dueNodes("`a` `b`", "CODING@-1/1=\"a\" TEXT@-1/1=\" \" CODING@-1/1=\"b\"");
        CHECK.dueNodes("`*a*&amp;<b>[c](d)`", "CODING@-1/1=\"*a*&amp;<b>[c](d)\"");
        CHECK.dueNodes("*a`*`", "TEXT@-1/1=\"*a\" CODING@-1/1=\"*\"");
    }

    private static void addresses() {
        CHECK.dueNodes("<ab:>", "LINK@-1/1=\"ab:\" TEXT@0/2=\"ab:\"");
        CHECK.dueNodes("x<a1+-.:\\*&amp;\u00A0>y",
                "TEXT@-1/1=\"x\" LINK@-1/1=\"a1+-.:\\*&amp;\u00A0\" TEXT@1/2=\"a1+-.:\\*&amp;\u00A0\" TEXT@-1/1=\"y\"");
        String scheme = "a".repeat(32);
        CHECK.dueNodes("<" + scheme + ":>", "LINK@-1/1=\"" + scheme + ":\" TEXT@0/2=\"" + scheme + ":\"");
        CHECK.dueWritten("<a" + scheme + ":>", "fault 2 at 0");
        CHECK.dueWritten("<a:>", "fault 2 at 0");
        CHECK.dueWritten("<1b:>", "&lt;1b:&gt;");
        String[] schemes = {"A0", "Z9", "zA", "az", "aZ", "a+", "a-", "a."};
        for (String fine : schemes) {
            CHECK.dueWritten("<" + fine + ":>", "<a href=\"" + fine + ":\">" + fine + ":</a>");
        }
        CHECK.dueWritten("<@b:>", "&lt;@b:&gt;");
        CHECK.dueWritten("<a_:>", "fault 2 at 0");
        CHECK.dueWritten("<ab: c>", "fault 2 at 0");
        CHECK.dueWritten("<ab:\u007F>", "fault 2 at 0");
        CHECK.dueWritten("<ab:c<d>", "fault 2 at 0");
        CHECK.dueWritten("<ab:c", "&lt;ab:c");
        CHECK.dueWritten("<ab:\"&>", "<a href=\"ab:&quot;&amp;\">ab:&quot;&amp;</a>");
    }

    private static void mails() {
        CHECK.dueNodes("<a@b>", "LINK@-1/1=\"mailto:a@b\" TEXT@0/2=\"a@b\"");
        CHECK.dueNodes("<.-_+9@b.-_+9>", "LINK@-1/1=\"mailto:.-_+9@b.-_+9\" TEXT@0/2=\".-_+9@b.-_+9\"");
        CHECK.dueWritten("<@b>", "&lt;@b&gt;");
        CHECK.dueWritten("<1@>", "&lt;1@&gt;");
        CHECK.dueWritten("<1@.b>", "&lt;1@.b&gt;");
        CHECK.dueWritten("<1@b->", "&lt;1@b-&gt;");
        CHECK.dueWritten("<1@b@c>", "&lt;1@b@c&gt;");
        CHECK.dueWritten("<1,2@b>", "&lt;1,2@b&gt;");
        CHECK.dueWritten("<,1@b>", "&lt;,1@b&gt;");
        CHECK.dueWritten("<*a*", "&lt;<em>a</em>");
        CHECK.dueNodes("<09AZaz@A09azZ>", "LINK@-1/1=\"mailto:09AZaz@A09azZ\" TEXT@0/2=\"09AZaz@A09azZ\"");
        CHECK.dueNodes("<z@0>", "LINK@-1/1=\"mailto:z@0\" TEXT@0/2=\"z@0\"");
        for (char c = '!'; c < 256; c++) {
            boolean sign = c < 127 && Character.isLetterOrDigit(c) || ".-_+".indexOf(c) >= 0;
            String mail = "<1" + c + "@b>";
            boolean link = Check.readAndWritten(Check.with(mail)).startsWith("<a href=\"mailto:");
            CHECK.due(mail, link ? 1 : 0, sign ? 1 : 0);
        }
        CHECK.dueWritten("<a@b c>", "fault 2 at 0");
        CHECK.dueWritten("<a@b", "&lt;a@b");
        String many = "<a@b>".repeat(300);
        CHECK.dueWritten(many, "<a href=\"mailto:a@b\">a@b</a>".repeat(300));
    }

    private static void references() {
        CHECK.dueNodes("&amp;&lt;&gt;&quot;&apos;&nbsp;&copy;&reg;", "TEXT@-1/1=\"&<>\"'\u00A0\u00A9\u00AE\"");
        CHECK.dueNodes("&auml;&ouml;&uuml;&szlig;&eacute;&euro;&hellip;&mdash;",
                "TEXT@-1/1=\"\u00E4\u00F6\u00FC\u00DF\u00E9\u20AC\u2026\u2014\"");
        CHECK.dueNodes("&AMP; &am; &ampx; &amp &; & &#; &#x; &#xg; &#a;",
                "TEXT@-1/1=\"&AMP; &am; &ampx; &amp &; & &#; &#x; &#xg; &#a;\"");
        CHECK.dueNodes("&#65;&#0000065;&#x41;&#X000041;&#xaF;", "TEXT@-1/1=\"AAAA\u00AF\"");
        CHECK.dueNodes("&#x2A;&#xFa;&#x09;&#90;", "TEXT@-1/1=\"*\u00FA\tZ\"");
        CHECK.dueNodes("&#00000065; &#x0000041;", "TEXT@-1/1=\"&#00000065; &#x0000041;\"");
        CHECK.dueNodes("&#0;&#x0;&#1114112;&#9999999;&#x110000;&#xFFFFFF;", "TEXT@-1/1=\"" + "\uFFFD".repeat(6) + "\"");
        CHECK.dueNodes("&#55296;&#57343;&#xD800;&#xdfff;", "TEXT@-1/1=\"" + "\uFFFD".repeat(4) + "\"");
        MarkInlines x = Check.with("&#55295;&#57344;&#1114111;");
        x.read();
        CHECK.due("letter 0", x.letter(0, false, 0), 55295);
        CHECK.due("letter 1", x.letter(0, false, 1), 57344);
        CHECK.due("letter 2", x.letter(0, false, 2), 1114111);
        CHECK.due("length", x.node(0, 2), 3);
        CHECK.dueNodes("&#42;a&#42; &#91;a](u)", "TEXT@-1/1=\"*a* [a](u)\"");
        CHECK.dueNodes("a&lt;b&#10;c", "TEXT@-1/1=\"a<b\nc\"");
        CHECK.dueWritten("&*a*", "&amp;<em>a</em>");
    }
}
