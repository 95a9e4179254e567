/** The term LINKS, and the order of its forms; above a test stand the document's words. */
public final class EdgesOfLinksTest {
    private static final Check CHECK = new Check();

    public static void main(String[] args) {
        withoutABracket();
        deadBrackets();
        livingBrackets();
        writtenOut();
        fullLabels();
        ownLabels();
        otherBrackets();
        holdsAll();
        noLink();
        nothingIsGone();
        bracketsOfTheirOwn();
        manyBrackets();
        CHECK.end();
    }

    // At ] with the latest bracket that is there: without one ] is TEXT.
    private static void withoutABracket() {
        CHECK.dueNodes("]", "TEXT@-1/1=\"]\"");
        CHECK.dueNodes("](u)", "TEXT@-1/1=\"](u)\"");
        CHECK.dueNodes("][r", "TEXT@-1/1=\"][r\"", "r");
        CHECK.dueWritten("[a](u)](v)", "<a href=\"u\">a</a>](v)");
        CHECK.dueWritten("[a]](u)", "[a]](u)");
        CHECK.dueWritten("[a [b](u)", "[a <a href=\"u\">b</a>");
        CHECK.dueWritten("![a [b](u)](v)", "<img src=\"v\" alt=\"a b\"/>");
    }

    // If it is DEAD: it is there no more, and ] is TEXT. .. with a LINK all brackets of links that are there are DEAD
    // from now on.
    private static void deadBrackets() {
        CHECK.dueWritten("[[a](u)](v)", "[<a href=\"u\">a</a>](v)");
        CHECK.dueWritten("[[a](u)][r]", "[<a href=\"u\">a</a>]<a href=\"#0\">r</a>", "r");
        CHECK.dueWritten("[[r]](v)", "[<a href=\"#0\">r</a>](v)", "r");
        CHECK.dueWritten("[[a][r]](v)", "[<a href=\"#0\">a</a>](v)", "r");
        CHECK.dueWritten("[[r][]](v)", "[<a href=\"#0\">r</a>](v)", "r");
        CHECK.dueWritten("[[[a](u)](v)](w)", "[[<a href=\"u\">a</a>](v)](w)");
        CHECK.dueWritten("[![[a](u)](v)](w)", "[<img src=\"v\" alt=\"a\"/>](w)");
        // It is there no more, so the next ] meets the bracket ahead of it.
        CHECK.dueWritten("![a [[b](u)] c](v)", "<img src=\"v\" alt=\"a [b] c\"/>");
        CHECK.dueWritten("![[[a](u)](v)](w)", "<img src=\"w\" alt=\"[a](v)\"/>");
    }

    private static void livingBrackets() {
        CHECK.dueWritten("[![a](u)](v)", "<a href=\"v\"><img src=\"u\" alt=\"a\"/></a>");
        CHECK.dueWritten("![[a](u)](v)", "<img src=\"v\" alt=\"a\"/>");
        CHECK.dueWritten("![![a](u)](v)", "<img src=\"v\" alt=\"a\"/>");
        CHECK.dueWritten("[[a](u) [b](v)](w)", "[<a href=\"u\">a</a> <a href=\"v\">b</a>](w)");
        CHECK.dueWritten("[a](u)[b](v)", "<a href=\"u\">a</a><a href=\"v\">b</a>");
        CHECK.dueWritten("[![a][r]][r]", "<a href=\"#0\"><img src=\"#0\" alt=\"a\"/></a>", "r");
    }

    // behind ] stands (, a GAP as long as can be, a TARGET if one can stand there (also <>; without one it is empty),
    // perhaps a GAP of at least one character and a TITLE, a GAP as long as can be, ); it is gone then.
    private static void writtenOut() {
        CHECK.dueWritten("[a]()b", "<a href=\"\">a</a>b");
        CHECK.dueWritten("[a](<>)b", "<a href=\"\">a</a>b");
        CHECK.dueWritten("[a]( \n )b", "<a href=\"\">a</a>b");
        CHECK.dueWritten("[a](<> 't')b", "<a href=\"\" title=\"t\">a</a>b");
        CHECK.dueWritten("[a]( 't')b", "<a href=\"'t'\">a</a>b");
        CHECK.dueWritten("[a]( 't' 's')b", "<a href=\"'t'\" title=\"s\">a</a>b");
        CHECK.dueWritten("[a](u't')b", "<a href=\"u't'\">a</a>b");
        CHECK.dueWritten("[a](<u>)(v)", "<a href=\"u\">a</a>(v)");
        CHECK.dueWritten("[a] (u)", "[a] (u)");
        CHECK.dueWritten("[a]\n(u)", "[a]\n(u)");
        CHECK.dueWritten("[a]u)", "[a]u)");
        CHECK.dueWritten("[a]<u)", "[a]&lt;u)");
        CHECK.dueWritten("[a](u", "[a](u");
        CHECK.dueWritten("[a](<1>", "[a](&lt;1&gt;");
        CHECK.dueWritten("[a](u 't'", "[a](u 't'");
        CHECK.dueWritten("[a](u 't' ", "[a](u 't' ");
        // The first that is so: it is taken, whatever labels there are.
        CHECK.dueWritten("[r](u)", "<a href=\"u\">r</a>", "r");
        CHECK.dueWritten("[r]()", "<a href=\"\">r</a>", "r");
        CHECK.dueWritten("[a](u)[r]", "<a href=\"u\">a</a><a href=\"#0\">r</a>", "r");
        CHECK.dueWritten("[r](u v)", "<a href=\"#0\">r</a>(u v)", "r");
        CHECK.dueWritten("[r](u", "<a href=\"#0\">r</a>(u", "r");
    }

    // Or a LABEL directly behind ] : it is gone, and the label is looked for.
    private static void fullLabels() {
        CHECK.dueWritten("[a][r]b", "<a href=\"#0\">a</a>b", "r");
        CHECK.dueWritten("![a][r]b", "<img src=\"#0\" alt=\"a\"/>b", "r");
        CHECK.dueWritten("[][r]", "<a href=\"#0\"></a>", "r");
        CHECK.dueWritten("[s][r]", "<a href=\"#0\">s</a>", "r", "s");
        CHECK.dueWritten("[a] [r]", "[a] <a href=\"#0\">r</a>", "r");
        CHECK.dueWritten("[a]\n[r]", "[a]\n<a href=\"#0\">r</a>", "r");
        CHECK.dueWritten("[a][r", "[a][r", "r");
        CHECK.dueWritten("[a][r](u)", "<a href=\"#0\">a</a>(u)", "r");
        CHECK.dueWritten("[a][r][]", "<a href=\"#0\">a</a>[]", "r");
        // Marks are not read in it.
        CHECK.dueWritten("[a][`r]`", "<a href=\"#0\">a</a>`", "`r");
        CHECK.dueWritten("[a][*r*]", "<a href=\"#0\">a</a>", "*r*");
        CHECK.dueWritten("[a][<b>]", "<a href=\"#0\">a</a>", "<b>");
    }

    // Or [] directly behind (this is gone) or nothing such .. : the text between the bracket and ], as it is written,
    // is looked for as a label, if it would be one.
    private static void ownLabels() {
        CHECK.dueWritten("[r][]b", "<a href=\"#0\">r</a>b", "r");
        CHECK.dueWritten("![r][]b", "<img src=\"#0\" alt=\"r\"/>b", "r");
        CHECK.dueWritten("[r] []", "<a href=\"#0\">r</a> []", "r");
        CHECK.dueWritten("[r]b", "<a href=\"#0\">r</a>b", "r");
        CHECK.dueWritten("![r]b", "<img src=\"#0\" alt=\"r\"/>b", "r");
        CHECK.dueWritten("[r][", "<a href=\"#0\">r</a>[", "r");
        CHECK.dueWritten("[r][][]", "<a href=\"#0\">r</a>[]", "r");
        CHECK.dueWritten("[*r*]", "<a href=\"#0\"><em>r</em></a>", "*r*");
        CHECK.dueWritten("[*r*]", "[<em>r</em>]", "r");
        CHECK.dueWritten("[&amp;]", "<a href=\"#0\">&amp;</a>", "&amp;");
        CHECK.dueWritten("[&amp;]", "[&amp;]", "&");
        CHECK.dueWritten("[r\\*]", "<a href=\"#0\">r*</a>", "r\\*");
        CHECK.dueWritten("[r\\*]", "[r*]", "r*");
        CHECK.dueWritten("[]", "[]", "r");
        CHECK.dueWritten("[][]", "[][]", "r");
        CHECK.dueWritten("[ ]", "[ ]", "r");
        CHECK.dueWritten("[ \n][]", "[\n][]", "r");
        CHECK.dueWritten("[`]`]", "[<code>]</code>]", "r");
        CHECK.dueWritten("[`[`]", "[<code>[</code>]", "r");
    }

    // if no other bracket was met behind the bracket (also one that is not there any more)
    private static void otherBrackets() {
        CHECK.dueWritten("[a [x] b]", "[a [x] b]", "a", "b", "a \\[x\\] b");
        CHECK.dueWritten("[a ![x](u) b][]", "[a <img src=\"u\" alt=\"x\"/> b][]", "a");
        CHECK.dueWritten("[a ![x](u) b]", "[a <img src=\"u\" alt=\"x\"/> b]", "a");
        CHECK.dueWritten("[a ![x](u) b][r]", "<a href=\"#0\">a <img src=\"u\" alt=\"x\"/> b</a>", "r");
        CHECK.dueWritten("[a ![x](u) b](v)", "<a href=\"v\">a <img src=\"u\" alt=\"x\"/> b</a>");
        CHECK.dueWritten("[x [r]", "[x <a href=\"#0\">r</a>", "r");
        CHECK.dueWritten("[x] [r]", "[x] <a href=\"#0\">r</a>", "r");
        CHECK.dueWritten("[a `[` b](u)", "<a href=\"u\">a <code>[</code> b</a>");
    }

    // a LINK, or IMAGE, that holds all behind the bracket; the runs behind the bracket are PAIRED; the bracket goes
    private static void holdsAll() {
        CHECK.dueNodes("x[a *b* `c`\n](u)y", "TEXT@-1/1=\"x\" LINK@-1/1=\"u\" TEXT@1/2=\"a \" EMPHASIS@1/2"
                + " TEXT@3/3=\"b\" TEXT@1/2=\" \" CODING@1/2=\"c\" SOFT@1/2 TEXT@-1/1=\"y\"");
        CHECK.dueNodes("![*a](u)*", "IMAGE@-1/1=\"u\" TEXT@0/2=\"*a\" TEXT@-1/1=\"*\"");
        CHECK.dueNodes("*[a*](u)", "TEXT@-1/1=\"*\" LINK@-1/1=\"u\" TEXT@1/2=\"a*\"");
        CHECK.dueNodes("*a[b](u)*", "EMPHASIS@-1/1 TEXT@0/2=\"a\" LINK@0/2=\"u\" TEXT@2/3=\"b\"");
        CHECK.dueNodes("!![a](u)", "TEXT@-1/1=\"!\" IMAGE@-1/1=\"u\" TEXT@1/2=\"a\"");
        CHECK.dueNodes("[!](u)", "LINK@-1/1=\"u\" TEXT@0/2=\"!\"");
    }

    // Else the bracket is there no more (it is TEXT), and ] is TEXT.
    private static void noLink() {
        CHECK.dueNodes("[a]", "TEXT@-1/1=\"[a]\"");
        CHECK.dueNodes("![a]", "TEXT@-1/1=\"![a]\"");
        CHECK.dueWritten("[[a]b](u)", "<a href=\"u\">[a]b</a>");
        CHECK.dueWritten("[![a]b](u)", "<a href=\"u\">![a]b</a>");
        CHECK.dueWritten("![[a]b](u)", "<img src=\"u\" alt=\"[a]b\"/>");
        CHECK.dueWritten("[a]b](u)", "[a]b](u)");
        CHECK.dueWritten("*[a*]*", "<em>[a</em>]*");
    }

    // With a label that is not defined nothing behind ] is gone; a second ( .. ) is not looked at.
    private static void nothingIsGone() {
        CHECK.dueWritten("[a][x]", "[a][x]", "a");
        CHECK.dueWritten("[a][x]", "[a][x]", "r");
        CHECK.dueWritten("[a][r", "<a href=\"#0\">a</a>[r", "a");
        CHECK.dueWritten("[a][x](u)", "[a]<a href=\"u\">x</a>", "a");
        CHECK.dueWritten("[a][x][r]", "[a]<a href=\"#0\">x</a>", "r");
        CHECK.dueWritten("[a][x][]", "[a][x][]", "r");
        CHECK.dueWritten("![a][x]", "![a][x]", "a");
        CHECK.dueWritten("[a](u v)(w)", "[a](u v)(w)");
        CHECK.dueWritten("[a](u v)[r]", "[a](u v)<a href=\"#0\">r</a>", "r");
        CHECK.dueWritten("[a](u)(v)", "<a href=\"u\">a</a>(v)");
        CHECK.dueWritten("[a](u v *b*)", "[a](u v <em>b</em>)");
    }

    // Where neither is so, [] behind ] are brackets of their own.
    private static void bracketsOfTheirOwn() {
        CHECK.dueWritten("[a][]", "[a][]", "r");
        CHECK.dueWritten("[a][](u)", "[a]<a href=\"u\"></a>", "r");
        CHECK.dueWritten("[a][][r]", "[a]<a href=\"#0\"></a>", "r");
        CHECK.dueWritten("[r][](u)", "<a href=\"#0\">r</a>(u)", "r");
        CHECK.dueWritten("[a ![x](u)][](v)", "[a <img src=\"u\" alt=\"x\"/>]<a href=\"v\"></a>", "a");
    }

    private static void manyBrackets() {
        CHECK.dueWritten("[".repeat(1500), "[".repeat(1500));
        CHECK.dueWritten("]".repeat(1500), "]".repeat(1500));
        CHECK.dueWritten("![".repeat(750), "![".repeat(750));
        CHECK.dueWritten("[".repeat(750) + "]".repeat(750), "[".repeat(750) + "]".repeat(750), "a");
        CHECK.dueWritten("[".repeat(1496) + "](u)", "[".repeat(1495) + "<a href=\"u\"></a>");
        CHECK.dueWritten("[]()".repeat(375), "<a href=\"\"></a>".repeat(375));
        CHECK.dueWritten("![]()".repeat(300), "<img src=\"\" alt=\"\"/>".repeat(300));
        CHECK.dueWritten("[r]".repeat(500), "[r]".repeat(500), "a");
        CHECK.dueWritten("[r]".repeat(500), "<a href=\"#0\">r</a>".repeat(250), "r");
        CHECK.dueWritten("[r]".repeat(499), "<a href=\"#0\">r</a>".repeat(250), "r");
    }
}
