/** The terms GAP, LABEL, TARGET, TITLE, UNESCAPED, REFERENCE, DEFINITIONS; above a test stand the document's words. */
public final class EdgesOfFormsTest {
    private static final Check CHECK = new Check();

    public static void main(String[] args) {
        gaps();
        noGaps();
        labelLengths();
        labelBrackets();
        labelWhite();
        angleTargets();
        bareTargetEnds();
        bareTargetBrackets();
        titleSigns();
        titleBackslashes();
        unescaped();
        numberLengths();
        numbers();
        names();
        normal();
        twenty();
        CHECK.end();
    }

    /** That a text, with this label defined, is a link and nothing else, or is not a link at its beginning. */
    private static void dueLink(String text, boolean want, String... labels) {
        MarkInlines x = new MarkInlines();
        for (String label : labels) {
            Check.load(x, label);
            x.define();
        }
        Check.load(x, text);
        x.read();
        boolean link = x.node(0, 0) == 6;
        boolean alone = true;
        for (int k = 1; k < x.about(2); k++) {
            alone = alone && x.node(k, 1) != MarkInlines.NONE;
        }
        CHECK.due(text, link && alone ? "a link" : link ? "a link and more" : "none", want ? "a link" : "none");
    }

    private static void dueTarget(String target, String want) {
        String length = want.isEmpty() ? "" : "=\"" + want + "\"";
        CHECK.dueNodes("[a](" + target + ")", "LINK@-1/1" + length + " TEXT@0/2=\"a\"");
    }

    private static void dueTitle(String title, String want) {
        String length = want.isEmpty() ? "" : "~\"" + want + "\"";
        CHECK.dueNodes("[a](u " + title + ")", "LINK@-1/1=\"u\"" + length + " TEXT@0/2=\"a\"");
    }

    // GAP: spaces (32), perhaps one 10, spaces.
    private static void gaps() {
        String[] gaps = {"", " ", "     ", "\n", " \n", "\n ", "   \n   "};
        for (String gap : gaps) {
            dueLink("[a](" + gap + "u)", true);
            dueLink("[a](u" + gap + ")", true);
            dueLink("[a](u 't'" + gap + ")", true);
            dueLink("[a](" + gap + ")", true);
            // perhaps a GAP of at least one character and a TITLE
            dueLink("[a](<1>" + gap + "'t')", !gap.isEmpty());
        }
    }

    private static void noGaps() {
        String[] none = {"\n\n", " \n \n ", "\t", "\r", "\r\n", " \t", "\n\t", "\0", "\u00A0"};
        for (String gap : none) {
            if (!gap.equals("\u00A0")) {
                dueLink("[a](" + gap + "u)", false);
                dueLink("[a](u" + gap + ")", false);
            }
            dueLink("[a](u 't'" + gap + ")", false);
            dueLink("[a](<1>" + gap + "'t')", false);
        }
        dueTarget("\u00A0u\u00A0", "\u00A0u\u00A0");
    }

    // LABEL: [, 1 .. 100 characters
    private static void labelLengths() {
        CHECK.dueThrow("define() of no characters", Check.with("")::define, IllegalArgumentException.class);
        for (int length : new int[] {1, 2, 99, 100}) {
            String label = "r".repeat(length);
            CHECK.due("define() of " + length, Check.with(label).define(), 0);
            dueLink("[a][" + label + "]", true, label);
            dueLink("[" + label + "][]", true, label);
            dueLink("[" + label + "]", true, label);
        }
        for (int length : new int[] {101, 102, 200, 1500}) {
            String label = "r".repeat(length);
            CHECK.dueThrow("define() of " + length, Check.with(label)::define, IllegalArgumentException.class);
        }
        // What is WHITE counts, too: the NORMAL label is short here, and [ .. ] would be none all the same.
        String wide = "r" + " ".repeat(99);
        dueLink("[a][" + wide + "]", true, "r");
        dueLink("[" + wide + "]", true, "r");
        dueLink("[a][" + wide + " ]", false, "r");
        dueLink("[" + wide + " ]", false, "r");
        CHECK.dueThrow("define() of 101 with spaces", Check.with(wide + " ")::define, IllegalArgumentException.class);
        // \ and what follows it are two characters, at the edge as well.
        dueLink("[" + "r".repeat(98) + "\\]]", true, "r".repeat(98) + "\\]");
        dueLink("[" + "r".repeat(99) + "\\]]", false, "r");
        CHECK.dueThrow("define() of 99 and \\]", Check.with("r".repeat(99) + "\\]")::define,
                IllegalArgumentException.class);
        CHECK.dueThrow("define() of 99 and \\", Check.with("r".repeat(99) + "\\")::define,
                IllegalArgumentException.class);
    }

    // but [ and ] only with \ just ahead (which has none just ahead that it belongs to: \ and what follows it are two)
    private static void labelBrackets() {
        String[] none = {"[", "]", "a[", "a]", "[a", "]a", "\\", "a\\", "\\\\[", "\\\\]", "\\\\\\", "\\\\\\\\]", "\\a]",
            "\\[[", "\\]]"};
        for (String label : none) {
            CHECK.dueThrow("define() of " + label, Check.with(label)::define, IllegalArgumentException.class);
        }
        String[] fine = {"\\[", "\\]", "a\\[", "\\]a", "\\\\", "\\\\\\[", "\\\\\\]", "\\\\\\\\", "\\a", "\\ ",
            "\\[\\]"};
        for (String label : fine) {
            CHECK.due("define() of " + label, Check.with(label).define(), 0);
            dueLink("[a][" + label + "]", true, label);
            dueLink("[" + label + "]", true, label);
        }
        CHECK.dueWritten("[a][r[]", "[a][r[]", "r");
        CHECK.dueWritten("[a][r\\]", "[a][r]", "r");
        CHECK.dueWritten("[a][r\\\\]]", "<a href=\"#0\">a</a>]", "r\\\\");
    }

    // not all WHITE
    private static void labelWhite() {
        String[] none = {" ", "\t", "\n", "\r", " \t\n\r", " ".repeat(99)};
        for (String label : none) {
            CHECK.dueThrow("define() of WHITE alone", Check.with(label)::define, IllegalArgumentException.class);
            CHECK.dueWritten("[a][" + label + "b]", "<a href=\"#0\">a</a>", "b");
        }
        String[] fine = {"\u00A0", " \u00A0 ", "\0", "\u000B", "\u000C", "\u0085"};
        for (String label : fine) {
            CHECK.due("define() of 160 or a sign below 32", Check.with(label).define(), 0);
        }
    }

    // TARGET: <, characters but 10, <, > (these two only behind a \ of the same kind), >
    private static void angleTargets() {
        dueTarget("<>", "");
        dueTarget("<1>", "1");
        dueTarget("< >", " ");
        dueTarget("<\t\r\0\u007F>", "\t\r\0\u007F");
        dueTarget("<)>", ")");
        dueTarget("<(>", "(");
        dueTarget("<\\<>", "<");
        dueTarget("<\\>>", ">");
        dueTarget("<\\\\>", "\\");
        dueTarget("<\\\\\\>>", "\\>");
        dueTarget("<\\1>", "\\1");
        String[] none = {"<", "<1", "<<>", "<1<>", "<\\>", "<\\\\\\>", "<\\\\<>", "<\n>", "<1\n2>", "<1\\\n2>", "<>>",
            "<>1", "<1>2"};
        for (String target : none) {
            dueLink("[a](" + target + ")", false);
        }
    }

    // up to WHITE, the end
    private static void bareTargetEnds() {
        dueTarget("u", "u");
        dueTarget("u ", "u");
        dueTarget("u\n", "u");
        dueTarget("u>", "u>");
        dueTarget("u<1>", "u<1>");
        dueTarget(">", ">");
        dueTarget("!", "!");
        dueTarget("\"t\"", "\"t\"");
        dueTarget("'t'", "'t'");
        dueTarget("u\"t\"", "u\"t\"");
        dueTarget("\u0080\u00FF~", "\u0080\u00FF~");
        // without one it is empty
        dueTarget("", "");
        String[] none = {"u v", "u\tv", "u\t", "u\r", "u\0", "u\37", "u\u007F", "\u007F", "\1", "\t",
            "u 't' v", "u v 't'"};
        for (String target : none) {
            dueLink("[a](" + target + ")", false);
        }
        dueLink("[a](u", false);
        dueLink("[a](u 't'", false);
        dueLink("[a](", false);
        dueLink("[a]( ", false);
        dueTarget("u".repeat(1495), "u".repeat(1495));
    }

    // or a ) that has no ( in it open; a \ and ASCII PUNCTUATION behind it are two that open and close nothing; none
    // if a ( is open at its end
    private static void bareTargetBrackets() {
        dueTarget("()", "()");
        dueTarget("(u)", "(u)");
        dueTarget("u()v", "u()v");
        dueTarget("((()))", "((()))");
        dueTarget("()()", "()()");
        dueTarget("\\(", "(");
        dueTarget("\\)", ")");
        dueTarget("(\\))", "())");
        dueTarget("(\\()", "(()");
        dueTarget("\\\\(u)", "\\(u)");
        dueTarget("\\a(u)", "\\a(u)");
        dueTarget("(".repeat(700) + ")".repeat(700), "(".repeat(700) + ")".repeat(700));
        String[] none = {"(", "(u", "u(", "(()", "\\\\(", "(\\)", "u( )", "( u)", "(u )", "(u \"t\")"};
        for (String target : none) {
            dueLink("[a](" + target + ")", false);
        }
        CHECK.dueWritten("[a](u))", "<a href=\"u\">a</a>)");
        CHECK.dueWritten("[a](\\\\))", "<a href=\"\\\">a</a>)");
        CHECK.dueWritten("[a]()u)", "<a href=\"\">a</a>u)");
    }

    // TITLE: between " and ", ' and ', or ( and )
    private static void titleSigns() {
        dueTitle("\"t\"", "t");
        dueTitle("'t'", "t");
        dueTitle("(t)", "t");
        dueTitle("\"\"", "");
        dueTitle("''", "");
        dueTitle("()", "");
        dueTitle("\" \n\n\t \"", " \n\n\t ");
        dueTitle("\"'\"", "'");
        dueTitle("'\"'", "\"");
        dueTitle("(\"')", "\"'");
        dueTitle("\")\"", ")");
        dueTitle("\"[]<1>`*\"", "[]<1>`*");
        dueTitle("'\0\u007F\u00FF'", "\0\u007F\u00FF");
        String[] none = {"\"", "'", "(", "\"t'", "'t\"", "(t\"", "\"t)", "t", "xtx", "`t`", "<t", "\"t\"\"", "'t't",
            "[t]", "\"t\" 't'"};
        for (String title : none) {
            dueLink("[a](u " + title + ")", false);
        }
        CHECK.dueWritten("[a](u (t)))", "<a href=\"u\" title=\"t\">a</a>)");
    }

    // with that one ( and ( too ) within only behind a \ of that kind
    private static void titleBackslashes() {
        dueTitle("\"\\\"\"", "\"");
        dueTitle("'\\''", "'");
        dueTitle("(\\))", ")");
        dueTitle("(\\()", "(");
        dueTitle("\"\\\\\"", "\\");
        dueTitle("\"\\\\\\\"\"", "\\\"");
        dueTitle("\"\\t\"", "\\t");
        dueTitle("\"\\\n\"", "\\\n");
        dueTitle("(\\\\)", "\\");
        String[] none = {"\"\\\"", "'\\'", "(\\)", "(()", "(())", "(t(t)t)", "(\\\\()", "\"\\\\\"\"", "'\\\\\\'"};
        for (String title : none) {
            dueLink("[a](u " + title + ")", false);
        }
    }

    // UNESCAPED: without these signs around, \ and ASCII PUNCTUATION as that one, REFERENCES as what they tell (65533,
    // if that is FORBIDDEN)
    private static void unescaped() {
        dueTarget("\\&amp;", "&amp;");
        dueTarget("&#92;&#42;", "\\*");
        dueTarget("&amp;amp;", "&amp;");
        dueTarget("xamp;", "xamp;");
        dueTarget("x#65;", "x#65;");
        dueTarget("&amp", "&amp");
        dueTarget("&#1;&#0;&#31;&#65534;&#65535;&#xD800;", "\uFFFD".repeat(6));
        dueTarget("&#9;&#10;&#13;&#32;&#127;", "\t\n\r \u007F");
        dueTarget("<&lt;&gt;&#10;>", "<>\n");
        dueTarget("&lt;u&gt;", "<u>");
        dueTarget("&#40;", "(");
        dueTarget("&#41;&#41;", "))");
        dueTarget("\\a\\1\\\u00A1", "\\a\\1\\\u00A1");
        dueTitle("\"&quot;\\&quot;&#1;\"", "\"&quot;\uFFFD");
        dueTitle("'&apos;&#39;'", "''");
        dueTitle("(&#40;&#41;)", "()");
        dueTitle("\"xamp; &amp\"", "xamp; &amp");
        // An address is what stands there, with nothing taken away.
        CHECK.dueNodes("<ab:\\*&amp;&#1;>", "LINK@-1/1=\"ab:\\*&amp;&#1;\" TEXT@0/2=\"ab:\\*&amp;&#1;\"");
    }

    private static void dueReference(String reference, int want) {
        MarkInlines x = Check.with(reference);
        x.read();
        CHECK.due(reference + ": nodes", x.about(2), 1);
        CHECK.due(reference + ": characters", x.node(0, 2), 1);
        CHECK.due(reference, x.letter(0, false, 0), want);
    }

    private static void dueNoReference(String text) {
        CHECK.dueNodes(text, "TEXT@-1/1=\"" + text + "\"");
    }

    // &, then # and 1 .. 7 digits, or #x or #X and 1 .. 6 digits of hexadecimals
    private static void numberLengths() {
        for (int zeros = 0; zeros <= 5; zeros++) {
            dueReference("&#" + "0".repeat(zeros) + "65;", 65);
        }
        for (int zeros = 0; zeros <= 4; zeros++) {
            dueReference("&#x" + "0".repeat(zeros) + "4b;", 75);
            dueReference("&#X" + "0".repeat(zeros) + "4B;", 75);
        }
        dueReference("&#9;", 9);
        dueReference("&#xA;", 10);
        String[] none = {"&#;", "&#x;", "&#X;", "&#00000065;", "&#12345678;", "&#x0000041;", "&#X1234567;", "&#65",
            "&#x41", "&#6 5;", "&# 65;", "& #65;", "&#-1;", "&#+65;", "&#xx41;", "&#6a;", "&x41;", "#65;", "&#x 41;"};
        for (String text : none) {
            dueNoReference(text);
        }
    }

    // that character (65533 for the numbers 0, above 1114111, 55296 .. 57343)
    private static void numbers() {
        int[] odd = {0, 1114112, 1114113, 9999999, 55296, 55297, 56000, 57342, 57343};
        for (int number : odd) {
            dueReference("&#" + number + ";", 65533);
            if (number < 0x1000000) {
                dueReference("&#x" + Integer.toHexString(number) + ";", 65533);
            }
        }
        dueReference("&#0000000;", 65533);
        dueReference("&#x000000;", 65533);
        dueReference("&#xFFFFFF;", 65533);
        int[] even = {9, 32, 127, 255, 256, 55295, 57344, 65533, 65536, 1114110, 1114111};
        for (int number : even) {
            dueReference("&#" + number + ";", number);
            dueReference("&#x" + Integer.toHexString(number) + ";", number);
            dueReference("&#X" + Integer.toHexString(number).toUpperCase() + ";", number);
        }
    }

    // Names: amp 38, lt 60, ..
    private static void names() {
        String[] names = {"amp", "lt", "gt", "quot", "apos", "nbsp", "copy", "reg", "auml", "ouml", "uuml", "szlig",
            "eacute", "euro", "hellip", "mdash"};
        int[] told = {38, 60, 62, 34, 39, 160, 169, 174, 228, 246, 252, 223, 233, 8364, 8230, 8212};
        for (int i = 0; i < names.length; i++) {
            String name = names[i];
            dueReference("&" + name + ";", told[i]);
            dueNoReference("&" + name);
            dueNoReference("&" + name + " ;");
            dueNoReference("& " + name + ";");
            dueNoReference("&" + name + "x;");
            dueNoReference("&x" + name + ";");
            dueNoReference("&" + name.substring(0, name.length() - 1) + ";");
            dueNoReference("&" + name.substring(1) + ";");
            dueNoReference("&" + name.toUpperCase() + ";");
            dueNoReference("&" + name.substring(0, 1).toUpperCase() + name.substring(1) + ";");
            dueNoReference("&#" + name + ";");
        }
        dueNoReference("&");
        dueNoReference("&;");
        dueNoReference("&auml:");
        dueNoReference("&ouuml;");
    }

    // NORMAL: without WHITE at both ends, rows of WHITE as one space, A .. Z as a .. z. Of a label the first counts.
    private static void normal() {
        dueSame("a b", "a  b", true);
        dueSame("a b", "a\tb", true);
        dueSame("a b", "\r\n a\n\n\tB \t", true);
        dueSame("a b", "ab", false);
        dueSame("a b", "a!b", false);
        dueSame("a b", "a b c", false);
        dueSame("a b", "a\u00A0b", false);
        dueSame("AZ", "az", true);
        dueSame("\u00C4", "\u00E4", false);
        dueSame("a\\]", "a\\[", false);
        dueSame("a&amp;", "a&", false);
        dueSame("\\a", "a", false);
        dueSame("a", "aa", false);
        dueSame("aa", "a", false);
    }

    private static void dueSame(String one, String other, boolean want) {
        MarkInlines x = Check.with(one);
        x.define();
        Check.load(x, other);
        CHECK.due("define() of " + other + " behind " + one, x.define(), want ? 0 : 1);
        CHECK.due("about(1) then", x.about(1), want ? 1 : 2);
        dueLink("[x][" + other + "]", want, one);
    }

    // DEFINITIONS, at most 20
    private static void twenty() {
        String[] labels = new String[20];
        for (int i = 0; i < 20; i++) {
            labels[i] = "n" + i;
        }
        for (int i = 0; i < 20; i++) {
            CHECK.dueNodes("[a][N" + i + "]", "LINK@-1/1#" + i + " TEXT@0/2=\"a\"", labels);
        }
        CHECK.dueWritten("[a][n20]", "[a][n20]", labels);
    }
}
