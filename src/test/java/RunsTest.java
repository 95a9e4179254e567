/** What promise 7 reads of runs: leaning, pairing, clashes. */
public final class RunsTest {
    private static final Check CHECK = new Check();

    public static void main(String[] args) {
        leaning();
        underscores();
        lengths();
        clashes();
        passedOver();
        withinBrackets();
        CHECK.end();
    }

    private static void leaning() {
        CHECK.dueWritten("*a*", "<em>a</em>");
        CHECK.dueWritten("a*b*c", "a<em>b</em>c");
        CHECK.dueWritten("* a*", "* a*");
        CHECK.dueWritten("*a *", "*a *");
        CHECK.dueWritten("*\u00A0a*", "*\u00A0a*");
        CHECK.dueWritten("*a\t*", "*a\t*");
        CHECK.dueWritten("*a\n*", "*a\n*");
        CHECK.dueWritten("a*\"b\"*", "a*&quot;b&quot;*");
        CHECK.dueWritten("a *\"b\"*", "a <em>&quot;b&quot;</em>");
        CHECK.dueWritten("\u00A0*(b)*\u00A0", "\u00A0<em>(b)</em>\u00A0");
        CHECK.dueWritten("(*\"b\"*)", "(<em>&quot;b&quot;</em>)");
        int[] punctuation = {161, 167, 171, 182, 183, 187, 191};
        for (int c = 161; c < 256; c++) {
            boolean is = false;
            for (int p : punctuation) {
                is = is || p == c;
            }
            String text = "a*" + (char) c + "*";
            CHECK.dueWritten(text, is ? text : "a<em>" + (char) c + "</em>");
        }
        CHECK.dueWritten("**", "**");
        CHECK.dueWritten("*", "*");
        CHECK.dueWritten("\\**a*", "*<em>a</em>");
        CHECK.dueWritten("a\\**\"*", "a*<em>&quot;</em>");
        CHECK.dueWritten("*a&#32;*", "<em>a </em>");
        CHECK.dueWritten("*a&#32;*b", "*a *b");
        CHECK.dueWritten("a*&#32;*", "a* *");
    }

    private static void underscores() {
        CHECK.dueWritten("_a_", "<em>a</em>");
        CHECK.dueWritten("__a__", "<strong>a</strong>");
        CHECK.dueWritten("a_b_", "a_b_");
        CHECK.dueWritten("_a_b", "_a_b");
        CHECK.dueWritten("_a_b_c_", "<em>a_b_c</em>");
        CHECK.dueWritten("a-_(b)_", "a-<em>(b)</em>");
        CHECK.dueWritten("_(b)_.", "<em>(b)</em>.");
        CHECK.dueWritten("_(b)_a", "_(b)_a");
        CHECK.dueWritten("a_\"b\"_", "a_&quot;b&quot;_");
        CHECK.dueWritten("*a_", "*a_");
        CHECK.dueWritten("*a_b*c_", "<em>a_b</em>c_");
    }

    private static void lengths() {
        CHECK.dueWritten("**a**", "<strong>a</strong>");
        CHECK.dueWritten("***a***", "<em><strong>a</strong></em>");
        CHECK.dueWritten("****a****", "<strong><strong>a</strong></strong>");
        CHECK.dueWritten("**a*", "*<em>a</em>");
        CHECK.dueWritten("*a**", "<em>a</em>*");
        CHECK.dueWritten("***a** b*", "<em><strong>a</strong> b</em>");
        CHECK.dueWritten("***a* b**", "<strong><em>a</em> b</strong>");
        CHECK.dueWritten("*a **b***", "<em>a <strong>b</strong></em>");
        CHECK.dueWritten("**a *b***", "<strong>a <em>b</em></strong>");
        CHECK.dueWritten("*a *b **c** d* e*", "<em>a <em>b <strong>c</strong> d</em> e</em>");
        CHECK.dueWritten("*_a_*", "<em><em>a</em></em>");
        CHECK.dueNodes("***a***",
                "EMPHASIS@-1/1 STRONG@0/2 TEXT@1/3=\"a\"");
    }

    private static void clashes() {
        CHECK.dueWritten("*a**b*", "<em>a**b</em>");
        CHECK.dueWritten("**a*b**", "<strong>a*b</strong>");
        CHECK.dueWritten("*a**b**c*", "<em>a<strong>b</strong>c</em>");
        CHECK.dueWritten("a***b***c", "a<em><strong>b</strong></em>c");
        CHECK.dueWritten("a***b******c", "a<em><strong>b</strong></em>***c");
        CHECK.dueWritten("*a**", "<em>a</em>*");
        CHECK.dueWritten("a*b**", "a*b**");
        CHECK.dueWritten("**a*b", "**a*b");
        CHECK.dueWritten("***a*****b*", "<em><strong>a</strong></em>**b*");
        CHECK.dueWritten("*a*b**c***d**", "<em>a</em>b<strong>c</strong><em>d</em>*");
    }

    private static void passedOver() {
        CHECK.dueWritten("*a _b* c_", "<em>a _b</em> c_");
        CHECK.dueWritten("*a __b *c* d", "*a __b <em>c</em> d");
        CHECK.dueWritten("**a *b** c*", "<em><em>a <em>b</em></em> c</em>");
        CHECK.dueWritten("**a _b** c_", "<strong>a _b</strong> c_");
        CHECK.dueWritten("_a *b_ c* d*", "<em>a *b</em> c* d*");
        CHECK.dueWritten("*a `*`*", "<em>a <code>*</code></em>");
        CHECK.dueWritten("__b_  *_a *__.", "<em><em>b</em>  *_a *</em>_.");
    }

    private static void withinBrackets() {
        CHECK.dueWritten("*a [b*](u)", "*a <a href=\"u\">b*</a>");
        CHECK.dueWritten("*a [*b*](u)*", "<em>a <a href=\"u\"><em>b</em></a></em>");
        CHECK.dueWritten("[*a](u)*", "<a href=\"u\">*a</a>*");
        CHECK.dueWritten("*a [b*]", "<em>a [b</em>]");
        CHECK.dueWritten("*a ![b*](u)", "*a <img src=\"u\" alt=\"b*\"/>");
        CHECK.dueWritten("**a [b*](u) c**", "<strong>a <a href=\"u\">b*</a> c</strong>");
        CHECK.dueWritten("*a [b **c](u) d** e*", "<em>a <a href=\"u\">b **c</a> d</em>* e*");
    }
}
