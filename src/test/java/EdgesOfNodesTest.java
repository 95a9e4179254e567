/** The terms from NODES to FAULTS, PLAIN and WRITTEN; above a test stand the document's words. */
public final class EdgesOfNodesTest {
    private static final Check CHECK = new Check();

    public static void main(String[] args) {
        lineEnds();
        backslashes();
        codeRows();
        codeSpaces();
        addressLengths();
        mailRows();
        deadByAddresses();
        rawMarks();
        references();
        noneAheadOrBehind();
        underscores();
        signsLeft();
        clashes();
        nearest();
        passedOver();
        pairNoMore();
        textAtTheEnd();
        plainEdges();
        writtenTitles();
        writtenNumbers();
        CHECK.end();
    }

    // 10: HARD, if two or more spaces stand just ahead in the text as it is written, else SOFT; these spaces go, a
    // single one, too.
    private static void lineEnds() {
        for (int spaces = 0; spaces < 6; spaces++) {
            String kind = spaces >= 2 ? "HARD" : "SOFT";
            CHECK.dueNodes("a" + " ".repeat(spaces) + "\nb",
                    "TEXT@-1/1=\"a\" " + kind + "@-1/1 TEXT@-1/1=\"b\"");
            CHECK.dueNodes(" ".repeat(spaces) + "\n", kind + "@-1/1");
            CHECK.dueNodes("\n" + " ".repeat(spaces) + "\n", "SOFT@-1/1 " + kind + "@-1/1");
        }
        CHECK.dueNodes("a  \t\nb", "TEXT@-1/1=\"a  \t\" SOFT@-1/1 TEXT@-1/1=\"b\"");
        CHECK.dueNodes("a \t \nb", "TEXT@-1/1=\"a \t\" SOFT@-1/1 TEXT@-1/1=\"b\"");
        CHECK.dueNodes("a\u00A0\u00A0\nb", "TEXT@-1/1=\"a\u00A0\u00A0\" SOFT@-1/1 TEXT@-1/1=\"b\"");
        CHECK.dueNodes("a&#32;&#32;\nb", "TEXT@-1/1=\"a  \" SOFT@-1/1 TEXT@-1/1=\"b\"");
        CHECK.dueNodes("a &#32;\nb", "TEXT@-1/1=\"a  \" SOFT@-1/1 TEXT@-1/1=\"b\"");
        CHECK.dueNodes("`a`  \nb", "CODING@-1/1=\"a\" HARD@-1/1 TEXT@-1/1=\"b\"");
        CHECK.dueNodes("a\n  b", "TEXT@-1/1=\"a\" SOFT@-1/1 TEXT@-1/1=\"  b\"");
        CHECK.dueNodes("[  \n](u)", "LINK@-1/1=\"u\" HARD@0/2");
    }

    // \ and 10: HARD; \ and ASCII PUNCTUATION: TEXT, that one; else \ is TEXT.
    private static void backslashes() {
        CHECK.dueNodes("\\\n", "HARD@-1/1");
        CHECK.dueNodes("a \\\nb", "TEXT@-1/1=\"a \" HARD@-1/1 TEXT@-1/1=\"b\"");
        CHECK.dueNodes("\\\\\n", "TEXT@-1/1=\"\\\" SOFT@-1/1");
        CHECK.dueNodes("\\\\\\\n", "TEXT@-1/1=\"\\\" HARD@-1/1");
        CHECK.dueNodes("\\ \n", "TEXT@-1/1=\"\\\" SOFT@-1/1");
        CHECK.dueNodes("\\  \n", "TEXT@-1/1=\"\\\" HARD@-1/1");
        CHECK.dueNodes("\\\r\n", "TEXT@-1/1=\"\\\r\" SOFT@-1/1");
        CHECK.dueNodes("a\\", "TEXT@-1/1=\"a\\\"");
        CHECK.dueNodes("\\\\\\", "TEXT@-1/1=\"\\\\\"");
        CHECK.dueNodes("\\a\\*b\\*", "TEXT@-1/1=\"\\a*b*\"");
        CHECK.dueNodes("\\<b>", "TEXT@-1/1=\"<b>\"");
        CHECK.dueNodes("\\&#1;", "TEXT@-1/1=\"&#1;\"");
        CHECK.dueNodes("\\[a](u)", "TEXT@-1/1=\"[a](u)\"");
        CHECK.dueNodes("[a\\](u)", "TEXT@-1/1=\"[a](u)\"");
        CHECK.dueNodes("!\\[a](u)", "TEXT@-1/1=\"![a](u)\"");
    }

    // A row of ` : if a later row of just as many is there, all between is a CODING .. Else the row is TEXT.
    private static void codeRows() {
        for (int length = 1; length < 6; length++) {
            String row = "`".repeat(length);
            CHECK.dueNodes(row + "a" + row, "CODING@-1/1=\"a\"");
            CHECK.dueNodes(row + "a" + row + "`", "TEXT@-1/1=\"" + row + "a" + row + "`\"");
            CHECK.dueNodes(row + "`a" + row, "TEXT@-1/1=\"" + row + "`a" + row + "\"");
            CHECK.dueNodes(row + "a`" + row + "b" + row, "CODING@-1/1=\"a`" + row + "b\"");
            CHECK.dueNodes(row, "TEXT@-1/1=\"" + row + "\"");
        }
        CHECK.dueNodes("`a`b`", "CODING@-1/1=\"a\" TEXT@-1/1=\"b`\"");
        CHECK.dueNodes("``*a*", "TEXT@-1/1=\"``\" EMPHASIS@-1/1 TEXT@1/2=\"a\"");
        CHECK.dueNodes("`\\`", "CODING@-1/1=\"\\\"");
        CHECK.dueNodes("`\\\\`", "CODING@-1/1=\"\\\\\"");
        CHECK.dueNodes("\\```a``", "TEXT@-1/1=\"`\" CODING@-1/1=\"a\"");
        CHECK.dueNodes("`&#1;<b>\\`", "CODING@-1/1=\"&#1;<b>\\\"");
        CHECK.dueNodes("[`a](u)`", "TEXT@-1/1=\"[\" CODING@-1/1=\"a](u)\"");
        CHECK.dueNodes("<ab:`>`", "LINK@-1/1=\"ab:`\" TEXT@0/2=\"ab:`\" TEXT@-1/1=\"`\"");
    }

    // 10 as a space; if it begins and ends with a space and is not all spaces, without one at each end.
    private static void codeSpaces() {
        CHECK.dueNodes("` `", "CODING@-1/1=\" \"");
        CHECK.dueNodes("`  `", "CODING@-1/1=\"  \"");
        CHECK.dueNodes("`\n`", "CODING@-1/1=\" \"");
        CHECK.dueNodes("` \n `", "CODING@-1/1=\"   \"");
        CHECK.dueNodes("` a `", "CODING@-1/1=\"a\"");
        CHECK.dueNodes("`\na\n`", "CODING@-1/1=\"a\"");
        CHECK.dueNodes("` a\n`", "CODING@-1/1=\"a\"");
        CHECK.dueNodes("`  a  `", "CODING@-1/1=\" a \"");
        CHECK.dueNodes("` a`", "CODING@-1/1=\" a\"");
        CHECK.dueNodes("`a `", "CODING@-1/1=\"a \"");
        CHECK.dueNodes("` \t `", "CODING@-1/1=\"\t\"");
        CHECK.dueNodes("`\t\t`", "CODING@-1/1=\"\t\t\"");
        CHECK.dueNodes("`a  \nb`", "CODING@-1/1=\"a   b\"");
        CHECK.dueNodes("`` ` ``", "CODING@-1/1=\"`\"");
    }

    // <, a scheme (a letter, 1 .. 31 ..), :, characters .., any number, and >
    private static void addressLengths() {
        for (int length : new int[] {2, 3, 31, 32}) {
            String address = "a".repeat(length) + ":";
            CHECK.dueNodes("<" + address + ">", "LINK@-1/1=\"" + address + "\" TEXT@0/2=\"" + address + "\"");
        }
        for (int length : new int[] {1, 33, 34}) {
            CHECK.dueWritten("<" + "a".repeat(length) + ":>", "fault 2 at 0");
        }
        String longest = "ab:" + "c".repeat(1495);
        CHECK.dueNodes("<" + longest + ">", "LINK@-1/1=\"" + longest + "\" TEXT@0/2=\"" + longest + "\"");
        CHECK.dueWritten("<:>", "&lt;:&gt;");
        CHECK.dueWritten("<ab>", "fault 2 at 0");
        CHECK.dueWritten("<ab:", "&lt;ab:");
        CHECK.dueWritten("< ab:>", "&lt; ab:&gt;");
        CHECK.dueWritten("<ab:c >", "fault 2 at 0");
        CHECK.dueWritten("<ab::>", "<a href=\"ab::\">ab::</a>");
        CHECK.dueWritten("<ab:>>", "<a href=\"ab:\">ab:</a>&gt;");
        CHECK.dueWritten("<<ab:>", "&lt;<a href=\"ab:\">ab:</a>");
        // The scheme comes first: this would be a row, @ and a row, but for the colon.
        CHECK.dueWritten("<ab:c@d>", "<a href=\"ab:c@d\">ab:c@d</a>");
    }

    // or <, a row of one or more letters, digits and . - _ + , @, a row of the same kind that begins and ends with a
    // letter or digit, and >
    private static void mailRows() {
        String[] fine = {"a@b", "1@2", ".@b", "-@b", "_@b", "+@b", "a.@b", "a@b.c", "a@b--c", "a@b_+c"};
        for (String mail : fine) {
            CHECK.dueNodes("<" + mail + ">", "LINK@-1/1=\"mailto:" + mail + "\" TEXT@0/2=\"" + mail + "\"");
        }
        String[] none = {"@", "@b", "1@", "1", "1@b@c", "1@.b", "1@b.", "1@-", "1 @b", "1@ b", "1@b ", "1:@b", "1,@b"};
        for (String mail : none) {
            CHECK.dueWritten("<" + mail + ">", "&lt;" + mail + "&gt;");
        }
        CHECK.dueWritten("<1@b", "&lt;1@b");
        String longest = "a".repeat(748) + "@" + "b".repeat(749);
        CHECK.dueNodes("<" + longest + ">", "LINK@-1/1=\"mailto:" + longest + "\" TEXT@0/2=\"" + longest + "\"");
    }

    // with each of these, too, all brackets of links that are there are DEAD from now on
    private static void deadByAddresses() {
        for (String address : new String[] {"ab:", "a@b"}) {
            String link = "<a href=\"" + (address.equals("ab:") ? "" : "mailto:") + address + "\">" + address + "</a>";
            CHECK.dueWritten("[<" + address + ">](u)", "[" + link + "](u)");
            CHECK.dueWritten("[[<" + address + ">](u)](v)", "[[" + link + "](u)](v)");
            CHECK.dueWritten("[<" + address + ">][r]", "[" + link + "]<a href=\"#0\">r</a>", "r");
            CHECK.dueWritten("![<" + address + ">](u)", "<img src=\"u\" alt=\"" + address + "\"/>");
            CHECK.dueWritten("<" + address + ">[a](u)", link + "<a href=\"u\">a</a>");
            CHECK.dueWritten("[x<" + address + ">[a](u)", "[x" + link + "<a href=\"u\">a</a>");
        }
    }

    // Else, if a letter, / and a letter, ! or ? follow and a > stands anywhere behind in the text: FAULT 2, RAW. Else
    // < is TEXT.
    private static void rawMarks() {
        for (String mark : new String[] {"<b", "</b", "<!", "<?"}) {
            CHECK.dueWritten("ab" + mark + ">", "fault 2 at 2");
            CHECK.dueWritten(mark + " ".repeat(1490) + ">", "fault 2 at 0");
            CHECK.dueWritten(mark + "\n\n`>`", "fault 2 at 0");
            CHECK.dueWritten(mark + "\\>", "fault 2 at 0");
            CHECK.dueWritten(mark, "&lt;" + mark.substring(1));
            CHECK.dueWritten(">" + mark, "&gt;&lt;" + mark.substring(1));
        }
        for (String mark : new String[] {"<", "<>", "</>", "</1>", "</ b>", "< b>", "<1>", "<->", "<\n>"}) {
            CHECK.dueWritten(mark, mark.replace("<", "&lt;").replace(">", "&gt;"));
        }
        CHECK.dueWritten("<1<b>", "fault 2 at 2");
    }

    // A REFERENCE: TEXT, that character; FAULT 1, if it is FORBIDDEN. Else & is TEXT.
    private static void references() {
        CHECK.dueNodes("&#42;a*", "TEXT@-1/1=\"*a*\"");
        CHECK.dueNodes("&#96;a&#96;", "TEXT@-1/1=\"`a`\"");
        CHECK.dueNodes("&#10;", "TEXT@-1/1=\"\n\"");
        CHECK.dueNodes("&lt;b>", "TEXT@-1/1=\"<b>\"");
        CHECK.dueNodes("&#92;*a*", "TEXT@-1/1=\"\\\" EMPHASIS@-1/1 TEXT@1/2=\"a\"");
        CHECK.dueNodes("&&amp;", "TEXT@-1/1=\"&&\"");
        CHECK.dueNodes("&*a*", "TEXT@-1/1=\"&\" EMPHASIS@-1/1 TEXT@1/2=\"a\"");
        CHECK.dueNodes("&#1", "TEXT@-1/1=\"&#1\"");
        CHECK.dueNodes("&#00000001;", "TEXT@-1/1=\"&#00000001;\"");
        CHECK.dueWritten("ab&#31;", "fault 1 at 2");
        CHECK.dueWritten("[a](u&#31;)", "<a href=\"u\uFFFD\">a</a>");
        CHECK.dueWritten("[a](u &#31;)", "fault 1 at 6");
        CHECK.dueWritten("[&#31;](u)", "fault 1 at 1");
        CHECK.dueWritten("[a][&#31;]", "<a href=\"#0\">a</a>", "&#31;");
        CHECK.dueWritten("[a][&#31;]", "fault 1 at 4");
    }

    // With the characters ahead of the row and behind it in the text as it was written (10 where there is none)
    private static void noneAheadOrBehind() {
        CHECK.dueWritten("*(a)*", "<em>(a)</em>");
        CHECK.dueWritten("_(a)_", "<em>(a)</em>");
        CHECK.dueWritten("*", "*");
        CHECK.dueWritten("**", "**");
        CHECK.dueWritten("*a", "*a");
        CHECK.dueWritten("a*", "a*");
        CHECK.dueWritten("*.*a", "*.*a");
        CHECK.dueWritten("*.*", "<em>.</em>");
        CHECK.dueWritten("\\**.*", "*<em>.</em>");
        CHECK.dueWritten("a&nbsp;*.*", "a\u00A0<em>.</em>");
        CHECK.dueWritten("*&nbsp;*", "<em>\u00A0</em>");
        CHECK.dueWritten("*\u00A0*", "*\u00A0*");
        CHECK.dueWritten("a*&amp;*", "a*&amp;*");
    }

    // _ opens if it leans left and (not right, or PUNCTUATION is ahead), closes if it leans right and (not left, or
    // PUNCTUATION is behind)
    private static void underscores() {
        CHECK.dueWritten("a_b_", "a_b_");
        CHECK.dueWritten("._b_", ".<em>b</em>");
        CHECK.dueWritten("_a_b", "_a_b");
        CHECK.dueWritten("_a_.", "<em>a</em>.");
        CHECK.dueWritten("a._b_", "a.<em>b</em>");
        CHECK.dueWritten("_a_.b", "<em>a</em>.b");
        CHECK.dueWritten("_._._", "<em>.</em>._");
        CHECK.dueWritten("a*b*", "a<em>b</em>");
        CHECK.dueWritten("*a*b", "<em>a</em>b");
    }

    // with two signs or more left of both, two of the last of that and of the first of this one go, and a STRONG holds
    // all between; else one and an EMPHASIS .. If the run has signs left it is looked at again.
    private static void signsLeft() {
        CHECK.dueWritten("*a*", "<em>a</em>");
        CHECK.dueWritten("*a**", "<em>a</em>*");
        CHECK.dueWritten("**a*", "*<em>a</em>");
        CHECK.dueWritten("**a**", "<strong>a</strong>");
        CHECK.dueWritten("***a**", "*<strong>a</strong>");
        CHECK.dueWritten("**a***", "<strong>a</strong>*");
        CHECK.dueWritten("***a***", "<em><strong>a</strong></em>");
        CHECK.dueWritten("****a***", "*<em><strong>a</strong></em>");
        CHECK.dueWritten("*****a*****", "<em><strong><strong>a</strong></strong></em>");
        CHECK.dueWritten("*a *b**", "<em>a <em>b</em></em>");
        CHECK.dueWritten("*a *b***", "<em>a <em>b</em></em>*");
        CHECK.dueWritten("**a* b*", "<em><em>a</em> b</em>");
        CHECK.dueWritten("*".repeat(38) + "a" + "*".repeat(38), "<strong>".repeat(19) + "a" + "</strong>".repeat(19));
        CHECK.dueWritten("*".repeat(37) + "a" + "*".repeat(37),
                "<em>" + "<strong>".repeat(18) + "a" + "</strong>".repeat(18) + "</em>");
    }

    // CLASH: one of the two both opens and closes, their lengths as they were written together are a multiple of 3,
    // and not both are such
    private static void clashes() {
        for (int opener = 1; opener < 8; opener++) {
            for (int closer = 1; closer < 8; closer++) {
                String first = "*".repeat(opener);
                String last = "*".repeat(closer);
                boolean clash = (opener + closer) % 3 == 0 && opener % 3 != 0;
                dueClash("a" + first + "b" + last, clash);
                dueClash(first + "b" + last + "c", clash);
                dueClash("a" + first + "b" + last + "c", clash);
                dueClash(first + "b" + last, false);
            }
        }
        // The lengths as they were written: of the first row two signs are left at its second pairing, of three.
        CHECK.dueWritten("***a* b*c**", "<em><em><em>a</em> b</em>c</em>*");
        // What clashes is not passed over, and the next one to the left is looked at.
        CHECK.dueWritten("*a **b*c", "<em>a **b</em>c");
        CHECK.dueWritten("**a*b*", "**a<em>b</em>");
    }

    private static void dueClash(String text, boolean want) {
        String written = Check.readAndWritten(Check.with(text));
        boolean pairs = written.contains("<em>") || written.contains("<strong>");
        CHECK.due(text, pairs ? "pairs" : "none", want ? "none" : "pairs");
    }

    // the nearest run to its left, behind the bracket, of the same sign that opens, has signs left .. If there is
    // none: the next one.
    private static void nearest() {
        CHECK.dueWritten("*a *b*", "*a <em>b</em>");
        CHECK.dueWritten("*a* b*", "<em>a</em> b*");
        CHECK.dueWritten("*a _b*", "<em>a _b</em>");
        CHECK.dueWritten("*a_", "*a_");
        CHECK.dueWritten("a* b*", "a* b*");
        CHECK.dueWritten("a* *b*", "a* <em>b</em>");
        CHECK.dueWritten("*a *b* c*", "<em>a <em>b</em> c</em>");
        CHECK.dueWritten("*a [b*](u)", "*a <a href=\"u\">b*</a>");
        CHECK.dueWritten("*a ![b*](u)", "*a <img src=\"u\" alt=\"b*\"/>");
        CHECK.dueWritten("*a [b*", "<em>a [b</em>");
        CHECK.dueWritten("*a [b*]", "<em>a [b</em>]");
        CHECK.dueWritten("*a `b*` c*", "<em>a <code>b*</code> c</em>");
    }

    // Runs between are passed over: what is left of them is TEXT.
    private static void passedOver() {
        CHECK.dueWritten("*a _b* c_", "<em>a _b</em> c_");
        CHECK.dueWritten("_a *b_ c*", "<em>a *b</em> c*");
        CHECK.dueWritten("**a _b *c** d* e_", "<em><em>a _b <em>c</em></em> d</em> e_");
        CHECK.dueWritten("**a __b** c__", "<strong>a __b</strong> c__");
        CHECK.dueWritten("*a __b_ c* d_", "<em>a _<em>b</em> c</em> d_");
    }

    // Behind this what is left of all these runs is TEXT, and they pair no more.
    private static void pairNoMore() {
        CHECK.dueWritten("[*a](u) b*", "<a href=\"u\">*a</a> b*");
        CHECK.dueWritten("[**a*](u) b*", "<a href=\"u\">*<em>a</em></a> b*");
        CHECK.dueWritten("[a [*b](u) c*](v)", "[a <a href=\"u\">*b</a> c*](v)");
        CHECK.dueWritten("![a ![*b](u) c*](v)", "<img src=\"v\" alt=\"a *b c*\"/>");
        CHECK.dueWritten("*[a](u)*", "<em><a href=\"u\">a</a></em>");
        CHECK.dueWritten("*a [*b](u)*", "<em>a <a href=\"u\">*b</a></em>");
        CHECK.dueWritten("[a](u)*b [c*](v)", "<a href=\"u\">a</a>*b <a href=\"v\">c*</a>");
        // Nor are the lengths of those that pair no more asked for.
        CHECK.dueWritten("[***a](u) a*b**", "<a href=\"u\">***a</a> a*b**");
    }

    // Brackets that stay are TEXT. .. TEXTS side by side are one; empty ones are none. Spaces and 10 at the text's end
    // count as they stand.
    private static void textAtTheEnd() {
        CHECK.dueNodes("[a![b", "TEXT@-1/1=\"[a![b\"");
        CHECK.dueNodes("a[b]c\\d&amp;e`f<1", "TEXT@-1/1=\"a[b]c\\d&e`f<1\"");
        CHECK.dueNodes("[](u)", "LINK@-1/1=\"u\"");
        CHECK.dueNodes("![]()", "IMAGE@-1/1");
        CHECK.dueNodes("[ \n ](u)", "LINK@-1/1=\"u\" SOFT@0/2 TEXT@0/2=\" \"");
        CHECK.dueNodes("*a*[](u)*b*",
                "EMPHASIS@-1/1 TEXT@0/2=\"a\" LINK@-1/1=\"u\" EMPHASIS@-1/1 TEXT@3/2=\"b\"");
        CHECK.dueNodes("a ", "TEXT@-1/1=\"a \"");
        CHECK.dueNodes("a   ", "TEXT@-1/1=\"a   \"");
        CHECK.dueNodes(" ", "TEXT@-1/1=\" \"");
        CHECK.dueNodes("a\n", "TEXT@-1/1=\"a\" SOFT@-1/1");
        CHECK.dueNodes("a\n ", "TEXT@-1/1=\"a\" SOFT@-1/1 TEXT@-1/1=\" \"");
        CHECK.dueNodes("a  \n", "TEXT@-1/1=\"a\" HARD@-1/1");
        CHECK.dueNodes("a\n\n", "TEXT@-1/1=\"a\" SOFT@-1/1 SOFT@-1/1");
        CHECK.dueNodes("a\\\n", "TEXT@-1/1=\"a\" HARD@-1/1");
    }

    // PLAIN is what nodes tell: TEXT and CODING as they are, SOFT and HARD a space, others what they hold.
    private static void plainEdges() {
        duePlain("<\"&>", "<\"&>");
        duePlain("`<\"&>`", "<\"&>");
        duePlain("\n", " ");
        duePlain("  \n", " ");
        duePlain("\\\n", " ");
        duePlain("*a*b", "a");
        duePlain("**a\nb**c", "a b");
        duePlain("[a](u 't')b", "a");
        duePlain("![a ![b](v 's') c](u 't')d", "a b c");
        duePlain("[](u 't')", "");
        duePlain("![](u)", "");
        duePlain("<a@b>", "a@b");
    }

    private static void duePlain(String text, String want) {
        MarkInlines x = Check.with(text);
        x.read();
        CHECK.due("plain(0) of " + text, x.plain(0), want.length());
        CHECK.due("plain(0) of " + text, Check.output(x), want);
    }

    // with a title (not an empty one)
    private static void writtenTitles() {
        for (String empty : new String[] {"", " \"\"", " ''", " ()"}) {
            CHECK.dueWritten("[a](u" + empty + ")", "<a href=\"u\">a</a>");
            CHECK.dueWritten("![a](u" + empty + ")", "<img src=\"u\" alt=\"a\"/>");
        }
        for (String title : new String[] {" \"t\"", " 't'", " (t)"}) {
            CHECK.dueWritten("[a](u" + title + ")", "<a href=\"u\" title=\"t\">a</a>");
            CHECK.dueWritten("![a](u" + title + ")", "<img src=\"u\" alt=\"a\" title=\"t\"/>");
        }
        CHECK.dueWritten("[a](<> \" \")", "<a href=\"\" title=\" \">a</a>");
        CHECK.dueWritten("![](<> \" \")", "<img src=\"\" alt=\"\" title=\" \"/>");
    }

    // a TARGET by a label is # and the definition's number
    private static void writtenNumbers() {
        String[] labels = new String[20];
        for (int i = 0; i < 20; i++) {
            labels[i] = "n" + i;
        }
        for (int i : new int[] {0, 1, 9, 10, 11, 19}) {
            CHECK.dueWritten("[a][n" + i + "]", "<a href=\"#" + i + "\">a</a>", labels);
            CHECK.dueWritten("![a][n" + i + "]", "<img src=\"#" + i + "\" alt=\"a\"/>", labels);
        }
    }
}
