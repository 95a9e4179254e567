/** What promise 7 reads of links and images: their four forms, targets, titles, labels, dead brackets. */
public final class LinksTest {
    private static final Check CHECK = new Check();

    public static void main(String[] args) {
        targets();
        angleTargets();
        titles();
        gaps();
        unescaped();
        fullLabels();
        ownLabels();
        brackets();
        deadBrackets();
        CHECK.end();
    }

    private static void targets() {
        CHECK.dueNodes("[a](u)", "LINK@-1/1=\"u\" TEXT@0/2=\"a\"");
        CHECK.dueNodes("![a](u)", "IMAGE@-1/1=\"u\" TEXT@0/2=\"a\"");
        CHECK.dueNodes("[](u)", "LINK@-1/1=\"u\"");
        CHECK.dueNodes("[]()", "LINK@-1/1");
        CHECK.dueNodes("[a](b(c(d))e)f", "LINK@-1/1=\"b(c(d))e\" TEXT@0/2=\"a\" TEXT@-1/1=\"f\"");
        CHECK.dueNodes("[a](b))", "LINK@-1/1=\"b\" TEXT@0/2=\"a\" TEXT@-1/1=\")\"");
        CHECK.dueNodes("[a](b\\(c)", "LINK@-1/1=\"b(c\" TEXT@0/2=\"a\"");
        CHECK.dueNodes("[a](b\\))", "LINK@-1/1=\"b)\" TEXT@0/2=\"a\"");
        CHECK.dueNodes("[a](b\\\\)", "LINK@-1/1=\"b\\\" TEXT@0/2=\"a\"");
        CHECK.dueNodes("[a](b\\c)", "LINK@-1/1=\"b\\c\" TEXT@0/2=\"a\"");
        CHECK.dueNodes("[a](b<c>)", "LINK@-1/1=\"b<c>\" TEXT@0/2=\"a\"");
        CHECK.dueNodes("[a](\"b\")", "LINK@-1/1=\"\"b\"\" TEXT@0/2=\"a\"");
        CHECK.dueNodes("[a](\u00A0\u0080)", "LINK@-1/1=\"\u00A0\u0080\" TEXT@0/2=\"a\"");
        CHECK.dueNodes("[a](*b*)", "LINK@-1/1=\"*b*\" TEXT@0/2=\"a\"");
        CHECK.dueWritten("[a](b(c)", "[a](b(c)");
        CHECK.dueWritten("[a](b(c )", "[a](b(c )");
        CHECK.dueWritten("[a](b c)", "[a](b c)");
        CHECK.dueWritten("[a](b", "[a](b");
        CHECK.dueWritten("[a](", "[a](");
        CHECK.dueWritten("[a](b\1)", "[a](b\1)");
        CHECK.dueWritten("[a](b\u007F)", "[a](b\u007F)");
        CHECK.dueWritten("[a](\tb)", "[a](\tb)");
        CHECK.dueWritten("[a] (b)", "[a] (b)");
        CHECK.dueWritten("[a](b)(c)", "<a href=\"b\">a</a>(c)");
    }

    private static void angleTargets() {
        CHECK.dueNodes("[a](<>)", "LINK@-1/1 TEXT@0/2=\"a\"");
        CHECK.dueNodes("[a](<b )(c>)", "LINK@-1/1=\"b )(c\" TEXT@0/2=\"a\"");
        CHECK.dueNodes("[a](<b\\>\\<c>)", "LINK@-1/1=\"b><c\" TEXT@0/2=\"a\"");
        CHECK.dueNodes("[a](<b\\\\>)", "LINK@-1/1=\"b\\\" TEXT@0/2=\"a\"");
        CHECK.dueNodes("[a](<\1\t>)", "LINK@-1/1=\"\1\t\" TEXT@0/2=\"a\"");
        CHECK.dueWritten("[a](<1\n>)", "[a](&lt;1\n&gt;)");
        CHECK.dueWritten("[a](<1<>)", "[a](&lt;1&lt;&gt;)");
        CHECK.dueWritten("[a](<1\\>)", "[a](&lt;1&gt;)");
        CHECK.dueWritten("[a](<1>2)", "[a](&lt;1&gt;2)");
        CHECK.dueWritten("[a](<1)", "[a](&lt;1)");
    }

    private static void titles() {
        CHECK.dueNodes("[a](u \"t\")", "LINK@-1/1=\"u\"~\"t\" TEXT@0/2=\"a\"");
        CHECK.dueNodes("[a](u 't')", "LINK@-1/1=\"u\"~\"t\" TEXT@0/2=\"a\"");
        CHECK.dueNodes("[a](u (t))", "LINK@-1/1=\"u\"~\"t\" TEXT@0/2=\"a\"");
        CHECK.dueNodes("![a](<u> \"t\")", "IMAGE@-1/1=\"u\"~\"t\" TEXT@0/2=\"a\"");
        CHECK.dueNodes("[a](u \"\")", "LINK@-1/1=\"u\" TEXT@0/2=\"a\"");
        CHECK.dueNodes("[a](u \"'(t)'\")", "LINK@-1/1=\"u\"~\"'(t)'\" TEXT@0/2=\"a\"");
        CHECK.dueNodes("[a](u '\"(')", "LINK@-1/1=\"u\"~\"\"(\" TEXT@0/2=\"a\"");
        CHECK.dueNodes("[a](u \"b\\\"c\\\\\")", "LINK@-1/1=\"u\"~\"b\"c\\\" TEXT@0/2=\"a\"");
        CHECK.dueNodes("[a](u (b\\(c\\)))", "LINK@-1/1=\"u\"~\"b(c)\" TEXT@0/2=\"a\"");
        CHECK.dueNodes("[a](u \"b\n\nc\")", "LINK@-1/1=\"u\"~\"b\n\nc\" TEXT@0/2=\"a\"");
        CHECK.dueWritten("[a](u (b(c)))", "[a](u (b(c)))");
        CHECK.dueWritten("[a](u \"b\"c\")", "[a](u &quot;b&quot;c&quot;)");
        CHECK.dueWritten("[a](u \"b)", "[a](u &quot;b)");
        CHECK.dueWritten("[a](u \"b')", "[a](u &quot;b')");
        CHECK.dueWritten("[a](u \"b\" \"c\")", "[a](u &quot;b&quot; &quot;c&quot;)");
        CHECK.dueWritten("[a](<1>\"b\")", "[a](&lt;1&gt;&quot;b&quot;)");
    }

    private static void gaps() {
        CHECK.dueNodes("[a](  \n  u  \n  \"t\"  \n  )", "LINK@-1/1=\"u\"~\"t\" TEXT@0/2=\"a\"");
        CHECK.dueNodes("[a]( u )", "LINK@-1/1=\"u\" TEXT@0/2=\"a\"");
        CHECK.dueNodes("[a](\n)", "LINK@-1/1 TEXT@0/2=\"a\"");
        CHECK.dueNodes("[a](u\n)", "LINK@-1/1=\"u\" TEXT@0/2=\"a\"");
        CHECK.dueNodes("[a](u\n'')", "LINK@-1/1=\"u\" TEXT@0/2=\"a\"");
        CHECK.dueWritten("[a](u\n\n)", "[a](u\n\n)");
        CHECK.dueWritten("[a](u\n\n\"t\")", "[a](u\n\n&quot;t&quot;)");
        CHECK.dueWritten("[a](u\t)", "[a](u\t)");
        // The document's words: no target can stand at the second 10, so it is empty, and a gap is there still.
        CHECK.dueNodes("[a](\n\n\"t\")", "LINK@-1/1~\"t\" TEXT@0/2=\"a\"");
        CHECK.dueNodes("[a](\n\n)", "LINK@-1/1 TEXT@0/2=\"a\"");
        CHECK.dueWritten("[a](\n\n\n)", "[a](\n\n\n)");
    }

    private static void unescaped() {
        CHECK.dueNodes("[a](\\*\\a&amp;&#x41;&euro;&no; \"\\*\\a&amp;&#x41;&euro;&no;\")",
                "LINK@-1/1=\"*\\a&A\u20AC&no;\"~\"*\\a&A\u20AC&no;\" TEXT@0/2=\"a\"");
        CHECK.dueNodes("[a](&#1;&#0;&#xFFFF; '&#1;')", "LINK@-1/1=\"\uFFFD\uFFFD\uFFFD\"~\"\uFFFD\" TEXT@0/2=\"a\"");
        CHECK.dueNodes("[a](\\&amp; '\\&amp;')", "LINK@-1/1=\"&amp;\"~\"&amp;\" TEXT@0/2=\"a\"");
        CHECK.dueNodes("[a](<&gt;\\&>)", "LINK@-1/1=\">&\" TEXT@0/2=\"a\"");
        CHECK.dueNodes("[a](u&#41;)", "LINK@-1/1=\"u)\" TEXT@0/2=\"a\"");
        CHECK.dueNodes("[a](u&#32;\"t\")", "LINK@-1/1=\"u \"t\"\" TEXT@0/2=\"a\"");
    }

    private static void fullLabels() {
        CHECK.dueNodes("[a][r]", "LINK@-1/1#0 TEXT@0/2=\"a\"", "r");
        CHECK.dueNodes("![a][r]b", "IMAGE@-1/1#0 TEXT@0/2=\"a\" TEXT@-1/1=\"b\"", "r");
        CHECK.dueNodes("[a][ R\n s\t]", "LINK@-1/1#0 TEXT@0/2=\"a\"", "r s");
        CHECK.dueNodes("[][r]", "LINK@-1/1#0", "r");
        CHECK.dueNodes("[*a* `]`][\\]]",
                "LINK@-1/1#0 EMPHASIS@0/2 TEXT@1/3=\"a\" TEXT@0/2=\" \" CODING@0/2=\"]\"", "\\]");
        CHECK.dueNodes("[![a](b)][r]", "LINK@-1/1#0 IMAGE@0/2=\"b\" TEXT@1/3=\"a\"", "r");
        CHECK.dueWritten("[a][x]", "[a][x]", "a");
        CHECK.dueWritten("[a][x](u)", "[a]<a href=\"u\">x</a>", "a");
        CHECK.dueWritten("[a][x][r]", "[a]<a href=\"#0\">x</a>", "r", "a");
        CHECK.dueWritten("[a][r](u)", "<a href=\"#0\">a</a>(u)", "r");
        CHECK.dueWritten("[a] [r]", "[a] <a href=\"#0\">r</a>", "r");
        CHECK.dueWritten("[x][r]]", "<a href=\"#0\">x</a>]", "r");
        CHECK.dueWritten("[x][r", "[x][r", "r");
        CHECK.dueWritten("[x](u)[r]", "<a href=\"u\">x</a><a href=\"#0\">r</a>", "r");
        String longest = "b".repeat(100);
        CHECK.dueWritten("[a][" + longest + "]", "<a href=\"#0\">a</a>", longest);
        CHECK.dueWritten("[a][b" + longest + "]", "<a href=\"#1\">a</a>[b" + longest + "]", longest, "a");
        CHECK.dueWritten("[a][ ]", "<a href=\"#0\">a</a>[ ]", "a");
        CHECK.dueWritten("[a][\\]", "<a href=\"#0\">a</a>[]", "a");
        CHECK.dueWritten("[a][b[c]", "<a href=\"#0\">a</a>[b[c]", "a");
    }

    private static void ownLabels() {
        CHECK.dueNodes("[r]", "LINK@-1/1#0 TEXT@0/2=\"r\"", "r");
        CHECK.dueNodes("[R][]", "LINK@-1/1#0 TEXT@0/2=\"R\"", "r");
        CHECK.dueNodes("![r][]", "IMAGE@-1/1#0 TEXT@0/2=\"r\"", "r");
        CHECK.dueNodes("![*r* s]", "IMAGE@-1/1#0 EMPHASIS@0/2 TEXT@1/3=\"r\" TEXT@0/2=\" s\"", "*r* s");
        CHECK.dueNodes("[r\n s]", "LINK@-1/1#0 TEXT@0/2=\"r\" SOFT@0/2 TEXT@0/2=\" s\"", "r s");
        CHECK.dueNodes("[\\]]", "LINK@-1/1#0 TEXT@0/2=\"]\"", "\\]");
        CHECK.dueNodes("[r&amp;]", "LINK@-1/1#0 TEXT@0/2=\"r&\"", "r&amp;");
        CHECK.dueWritten("[x] [x][] [] [][] [ ]", "[x] [x][] [] [][] [ ]", "r");
        CHECK.dueWritten("[r](b c)", "<a href=\"#0\">r</a>(b c)", "r");
        CHECK.dueWritten("[r] []", "<a href=\"#0\">r</a> []", "r");
        CHECK.dueWritten("[r][][]", "<a href=\"#0\">r</a>[]", "r");
        CHECK.dueWritten("[r `]`]", "[r <code>]</code>]", "r");
        String longest = "b".repeat(100);
        CHECK.dueWritten("[" + longest + "]", "<a href=\"#0\">" + longest + "</a>", longest);
        CHECK.dueWritten("[" + longest + "b]", "[" + longest + "b]", longest);
        CHECK.dueWritten("![![r](u)]", "![<img src=\"u\" alt=\"r\"/>]", "r");
        CHECK.dueWritten("[[r]", "[<a href=\"#0\">r</a>", "r");
        CHECK.dueWritten("[a [x] b]", "[a [x] b]", "a", "a \\[x\\] b");
        CHECK.dueWritten("[a ![x] b][]", "[a ![x] b][]", "a");
        CHECK.dueWritten("[a \\[ b]", "<a href=\"#0\">a [ b</a>", "a \\[ b");
    }

    private static void brackets() {
        CHECK.dueWritten("a]", "a]");
        CHECK.dueWritten("](u)", "](u)");
        CHECK.dueWritten("]*a*", "]<em>a</em>");
        CHECK.dueWritten("[x]*a*", "[x]<em>a</em>");
        CHECK.dueWritten("[a", "[a");
        CHECK.dueWritten("![a", "![a");
        CHECK.dueWritten("!a", "!a");
        CHECK.dueWritten("a!", "a!");
        CHECK.dueWritten("!![a](u)", "!<img src=\"u\" alt=\"a\"/>");
        CHECK.dueWritten("[a]](u)", "[a]](u)");
        CHECK.dueWritten("[a [b]](u)", "<a href=\"u\">a [b]</a>");
        CHECK.dueWritten("[a \\]](u)", "<a href=\"u\">a ]</a>");
        CHECK.dueWritten("[a `](u)`", "[a <code>](u)</code>");
        CHECK.dueNodes("[a[b](u)", "TEXT@-1/1=\"[a\" LINK@-1/1=\"u\" TEXT@1/2=\"b\"");
        CHECK.dueWritten("[a](u)".repeat(250), "<a href=\"u\">a</a>".repeat(250));
    }

    private static void deadBrackets() {
        CHECK.dueWritten("[a [b](u) c](v)", "[a <a href=\"u\">b</a> c](v)");
        CHECK.dueWritten("[a [b](u) [c](v)](w)", "[a <a href=\"u\">b</a> <a href=\"v\">c</a>](w)");
        CHECK.dueWritten("[[[a](u)](v)](w)", "[[<a href=\"u\">a</a>](v)](w)");
        CHECK.dueWritten("[a <ab:c> d](v)", "[a <a href=\"ab:c\">ab:c</a> d](v)");
        CHECK.dueWritten("[a <b@c> d](v)", "[a <a href=\"mailto:b@c\">b@c</a> d](v)");
        CHECK.dueWritten("[a [r] b](v)", "[a <a href=\"#0\">r</a> b](v)", "r");
        CHECK.dueWritten("[a ![b](u) c](v)", "<a href=\"v\">a <img src=\"u\" alt=\"b\"/> c</a>");
        CHECK.dueWritten("![a [b](u) c](v)", "<img src=\"v\" alt=\"a b c\"/>");
        CHECK.dueWritten("[![[a](u)](v)](w)", "[<img src=\"v\" alt=\"a\"/>](w)");
        CHECK.dueNodes("![a <ab:c>](v)", "IMAGE@-1/1=\"v\" TEXT@0/2=\"a \" LINK@0/2=\"ab:c\" TEXT@2/3=\"ab:c\"");
        CHECK.dueWritten("[a [b](u) ![c](v)", "[a <a href=\"u\">b</a> <img src=\"v\" alt=\"c\"/>");
        CHECK.dueWritten("[x <ab:c> [y](u)", "[x <a href=\"ab:c\">ab:c</a> <a href=\"u\">y</a>");
        CHECK.dueWritten("[a <ab:c> d] [r]", "[a <a href=\"ab:c\">ab:c</a> d] <a href=\"#0\">r</a>", "r");
    }
}
