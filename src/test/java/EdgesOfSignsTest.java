/** The terms that name characters, each of them over all 256 characters; above a test stand the document's words. */
public final class EdgesOfSignsTest {
    private static final Check CHECK = new Check();
    private static final String ASCII_PUNCTUATION = "!\"#$%&'()*+,-./:;<=>?@[\\]^_`{|}~";
    private static final String PUNCTUATION = ASCII_PUNCTUATION + "\u00A1\u00A7\u00AB\u00B6\u00B7\u00BB\u00BF";

    public static void main(String[] args) {
        for (char c = 0; c < 256; c++) {
            ofTheTape(c);
            white(c);
            whiteInALabel(c);
            letters(c);
            schemes(c);
            addresses(c);
            mails(c);
            digits(c);
            hexadecimals(c);
            asciiPunctuation(c);
            punctuationNear(c);
            punctuationFar(c);
            bareTargets(c);
            angleTargets(c);
            forbiddenOnTheTape(c);
        }
        forbidden();
        CHECK.end();
    }

    private static boolean isWhite(char c) {
        return "\t\n\r ".indexOf(c) >= 0;
    }

    private static boolean isLetter(char c) {
        return "ABCDEFGHIJKLMNOPQRSTUVWXYZabcdefghijklmnopqrstuvwxyz".indexOf(c) >= 0;
    }

    private static boolean isDigit(char c) {
        return "0123456789".indexOf(c) >= 0;
    }

    private static String written(String text, String... labels) {
        MarkInlines x = new MarkInlines();
        for (String label : labels) {
            Check.load(x, label);
            x.define();
        }
        Check.load(x, text);
        return Check.readAndWritten(x);
    }

    private static String escaped(String text) {
        return text.replace("&", "&amp;").replace("<", "&lt;").replace(">", "&gt;").replace("\"", "&quot;");
    }

    private static void due(String call, boolean got, boolean want) {
        CHECK.due(call, got ? "yes" : "no", want ? "yes" : "no");
    }

    // THE TAPE has characters 0 .. 255
    private static void ofTheTape(char c) {
        MarkInlines x = Check.with("" + c);
        CHECK.due("read() of character " + (int) c, x.read(), 1);
        CHECK.due("its kind", x.node(0, 0), c == 10 ? 1 : 0);
        CHECK.due("its letter", x.letter(0, false, 0), c == 10 ? -1 : c);
    }

    // WHITE: 9, 10, 13, 32 (a LABEL is not all WHITE)
    private static void white(char c) {
        MarkInlines x = Check.with("" + c);
        boolean refused = false;
        try {
            x.define();
        } catch (IllegalArgumentException e) {
            refused = true;
        }
        due("define() of character " + (int) c + " is refused", refused, isWhite(c) || "[]\\".indexOf(c) >= 0);
    }

    // NORMAL: without WHITE at both ends, rows of WHITE as one space, A .. Z as a .. z
    private static void whiteInALabel(char c) {
        if ("[]\\".indexOf(c) >= 0) {
            return;
        }
        MarkInlines x = Check.with("a b");
        x.define();
        Check.load(x, "a" + c + "b");
        due("a, character " + (int) c + ", b is a b", x.define() == 0, isWhite(c));
        Check.load(x, "a" + c + c + "b");
        due("a, twice character " + (int) c + ", b is a b", x.define() == 0, isWhite(c));
        Check.load(x, c + "a b" + c);
        due("a b within characters " + (int) c + " is a b", x.define() == 0, isWhite(c));
        char other = (char) (c ^ 32);
        if (!isWhite(c) && !isWhite(other) && "[]\\".indexOf(other) < 0) {
            x.drop();
            Check.load(x, "" + c);
            x.define();
            Check.load(x, "" + other);
            due("character " + (int) c + " is " + (int) other + " in a label", x.define() == 0, isLetter(c));
        }
    }

    // LETTERS: A .. Z, a .. z (if a letter, / and a letter, ! or ? follow and a > stands behind: FAULT 2)
    private static void letters(char c) {
        boolean raw = isLetter(c) || c == '!' || c == '?';
        due("<" + c + ">", written("<" + c + ">").equals("fault 2 at 0"), raw);
        due("</" + c + ">", written("</" + c + ">").equals("fault 2 at 0"), isLetter(c));
    }

    // a scheme (a letter, 1 .. 31 letters, digits, +, -, .)
    private static void schemes(char c) {
        String first = c + "b:";
        String later = "a" + c + ":";
        boolean sign = isLetter(c) || isDigit(c) || "+-.".indexOf(c) >= 0;
        due("<" + first + ">", written("<" + first + ">").equals(link(first, first)), isLetter(c));
        due("<" + later + ">", written("<" + later + ">").equals(link(later, later)), sign);
    }

    private static String link(String target, String text) {
        return "<a href=\"" + escaped(target) + "\">" + escaped(text) + "</a>";
    }

    // characters above 32 but <, >, 127, any number
    private static void addresses(char c) {
        String all = "ab:" + c;
        boolean sign = c > 32 && c != '<' && c != '>' && c != 127;
        due("<" + all + ">", written("<" + all + ">").equals(link(all, all)), sign);
    }

    // a row of one or more letters, digits and . - _ + , @, a row of the same kind that begins and ends with a letter
    // or digit
    private static void mails(char c) {
        boolean end = isLetter(c) || isDigit(c);
        boolean sign = end || ".-_+".indexOf(c) >= 0;
        dueMail("" + c + "@b", sign);
        dueMail("1" + c + "1@b", sign);
        dueMail("1@" + c, end);
        dueMail("1@" + c + "b", end);
        dueMail("1@b" + c, end);
        dueMail("1@b" + c + "b", sign);
    }

    private static void dueMail(String all, boolean want) {
        due("<" + all + ">", written("<" + all + ">").equals(link("mailto:" + all, all)), want);
    }

    // DIGITS 0 .. 9
    private static void digits(char c) {
        CHECK.due("&#6" + c + ";", told("&#6" + c + ";"), isDigit(c) ? 60 + c - '0' : -1);
    }

    // 1 .. 6 digits of hexadecimals
    private static void hexadecimals(char c) {
        int worth = "0123456789abcdef".indexOf(Character.toLowerCase(c));
        boolean digit = worth >= 0 && c < 128;
        for (char x : new char[] {'x', 'X'}) {
            String text = "&#" + x + "4" + c + ";";
            CHECK.due(text, told(text), digit ? 64 + worth : -1);
        }
        if ("xX0123456789".indexOf(c) < 0) {
            CHECK.due("&#" + c + "41;", told("&#" + c + "41;"), -1);
        }
    }

    /** The one character that a text tells, or -1 if it has a fault or is not one character. */
    private static int told(String text) {
        MarkInlines x = Check.with(text);
        try {
            x.read();
        } catch (IllegalArgumentException e) {
            return -1;
        }
        return x.about(2) == 1 && x.node(0, 2) == 1 ? x.letter(0, false, 0) : -1;
    }

    // ASCII PUNCTUATION: 33 .. 47, 58 .. 64, 91 .. 96, 123 .. 126 (\ and ASCII PUNCTUATION as that one)
    private static void asciiPunctuation(char c) {
        boolean is = ASCII_PUNCTUATION.indexOf(c) >= 0;
        String want = is ? "" + c : "\\" + c;
        CHECK.dueWritten("\\" + c, c == 10 ? "<br/>\n" : escaped(want));
        CHECK.dueNodes("[a](u \"\\" + c + "\")", "LINK@-1/1=\"u\"~\"" + want + "\" TEXT@0/2=\"a\"");
        if (c > 32 && c != 127) {
            CHECK.dueNodes("[a](\\" + c + ")", "LINK@-1/1=\"" + want + "\" TEXT@0/2=\"a\"");
        }
        if (c != 10) {
            CHECK.dueNodes("[a](<\\" + c + ">)", "LINK@-1/1=\"" + want + "\" TEXT@0/2=\"a\"");
        }
    }

    // PUNCTUATION: these, and 161, 167, 171, 182, 183, 187, 191 (it LEANS LEFT if the one behind is neither WHITE nor
    // 160, and, if that is PUNCTUATION, the one ahead is WHITE, 160 or PUNCTUATION)
    private static void punctuationNear(char c) {
        boolean leans = !isWhite(c) && c != 160 && PUNCTUATION.indexOf(c) < 0;
        due("a*" + c + "*", written("a*" + c + "*").contains("<em>"), leans);
        due("*" + c + "*a", written("*" + c + "*a").contains("<em>"), leans);
    }

    private static void punctuationFar(char c) {
        if (c == '*' || c == '\\') {
            return;
        }
        boolean leans = isWhite(c) || c == 160 || PUNCTUATION.indexOf(c) >= 0;
        due(c + "*(b)*", written(c + "*(b)*").contains("<em>"), leans);
        due("*(b)*" + c, written("*(b)*" + c).contains("<em>"), leans);
        if (c != '_') {
            boolean opens = PUNCTUATION.indexOf(c) >= 0;
            boolean apart = isWhite(c) || c == 160;
            due(c + "_b_", written(c + "_b_").contains("<em>"), opens || apart);
            due("_b_" + c, written("_b_" + c).contains("<em>"), opens || apart);
        }
    }

    // a row of one or more characters above 32, not 127, the first not <
    private static void bareTargets(char c) {
        boolean inside = c > 32 && c != 127 && c != '(' && c != ')';
        String within = "x" + c + "y";
        due("[a](" + within + ")", written("[a](" + within + ")").equals(link(within, "a")), inside);
        boolean first = inside && c != '<';
        due("[a](" + c + "y)", written("[a](" + c + "y)").equals(link(c + "y", "a")), first);
    }

    // <, characters but 10, <, >
    private static void angleTargets(char c) {
        boolean inside = c != 10 && c != '<' && c != '>';
        String within = "1" + c + "y";
        due("[a](<" + within + ">)", written("[a](<" + within + ">)").equals(link(within, "a")), inside);
    }

    // All else is TEXT (FORBIDDEN is asked of REFERENCES alone)
    private static void forbiddenOnTheTape(char c) {
        due("a" + c + "b", written("a" + c + "b").startsWith("fault"), false);
    }

    // FORBIDDEN: below 32 but 9, 10, 13, or 65534, 65535
    private static void forbidden() {
        for (int n = 1; n < 300; n++) {
            dueForbidden(n, n < 32 && n != 9 && n != 10 && n != 13);
        }
        for (int n = 65500; n < 65600; n++) {
            dueForbidden(n, n == 65534 || n == 65535);
        }
    }

    private static void dueForbidden(int n, boolean is) {
        due("a&#" + n + "; has fault 1", written("a&#" + n + ";").equals("fault 1 at 1"), is);
        MarkInlines x = Check.with("[a](<&#" + n + ";> '&#" + n + ";')");
        x.read();
        CHECK.due("&#" + n + "; in a target", x.letter(0, false, 0), is ? 65533 : n);
        CHECK.due("&#" + n + "; in a title", x.letter(0, true, 0), is ? 65533 : n);
    }
}
