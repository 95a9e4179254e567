/** Promises 9 and 10: node and letter. */
public final class NodeTest {
    private static final Check CHECK = new Check();

    public static void main(String[] args) {
        everyKind();
        order();
        whats();
        letters();
        oneText();
        CHECK.end();
    }

    private static void everyKind() {
        CHECK.dueNodes("a\nb  \n`c`*d***e**[f](g 'h')![i][r]",
                "TEXT@-1/1=\"a\" SOFT@-1/1 TEXT@-1/1=\"b\" HARD@-1/1 CODING@-1/1=\"c\" EMPHASIS@-1/1 TEXT@5/2=\"d\""
                + " STRONG@-1/1 TEXT@7/2=\"e\" LINK@-1/1=\"g\"~\"h\" TEXT@9/2=\"f\" IMAGE@-1/1#0 TEXT@11/2=\"i\"", "r");
    }

    private static void order() {
        CHECK.dueNodes("*a **b `c` d** e* f",
                "EMPHASIS@-1/1 TEXT@0/2=\"a \" STRONG@0/2 TEXT@2/3=\"b \" CODING@2/3=\"c\" TEXT@2/3=\" d\""
                + " TEXT@0/2=\" e\" TEXT@-1/1=\" f\"");
        CHECK.dueNodes("[*a*![b](c)](d)",
                "LINK@-1/1=\"d\" EMPHASIS@0/2 TEXT@1/3=\"a\" IMAGE@0/2=\"c\" TEXT@3/3=\"b\"");
    }

    private static void whats() {
        MarkInlines x = Check.with("r");
        x.define();
        Check.load(x, "*ab*[c](de 'fgh')[r]\n");
        x.read();
        int[][] want = {
            {4, -1, 0, 0, -1, 1}, {0, 0, 2, 0, -1, 2}, {6, -1, 2, 3, -1, 1}, {0, 2, 1, 0, -1, 2},
            {6, -1, 0, 0, 0, 1}, {0, 4, 1, 0, -1, 2}, {1, -1, 0, 0, -1, 1}};
        for (int k = 0; k < want.length; k++) {
            for (int what = 0; what < 6; what++) {
                CHECK.due("node(" + k + ", " + what + ")", x.node(k, what), want[k][what]);
            }
            CHECK.due("node(" + k + ", -1)", x.node(k, -1), -1);
            CHECK.due("node(" + k + ", 6)", x.node(k, 6), -1);
            CHECK.due("node(" + k + ", MAX)", x.node(k, Integer.MAX_VALUE), -1);
            CHECK.due("node(" + k + ", MIN)", x.node(k, Integer.MIN_VALUE), -1);
        }
        int[] none = {-1, 7, 8, Integer.MIN_VALUE, Integer.MAX_VALUE};
        for (int k : none) {
            for (int what = -1; what < 7; what++) {
                CHECK.due("node(" + k + ", " + what + ")", x.node(k, what), -1);
            }
        }
    }

    private static void letters() {
        MarkInlines x = Check.with("*ab*[c](de 'fgh')`i`\n");
        x.read();
        CHECK.due("letter of EMPHASIS", x.letter(0, false, 0), -1);
        CHECK.due("letter(1, false, 0)", x.letter(1, false, 0), 'a');
        CHECK.due("letter(1, false, 1)", x.letter(1, false, 1), 'b');
        CHECK.due("letter(1, false, 2)", x.letter(1, false, 2), -1);
        CHECK.due("letter(1, false, -1)", x.letter(1, false, -1), -1);
        CHECK.due("letter(1, true, 0)", x.letter(1, true, 0), -1);
        CHECK.due("letter(2, false, 1)", x.letter(2, false, 1), 'e');
        CHECK.due("letter(2, false, 2)", x.letter(2, false, 2), -1);
        CHECK.due("letter(2, true, 0)", x.letter(2, true, 0), 'f');
        CHECK.due("letter(2, true, 2)", x.letter(2, true, 2), 'h');
        CHECK.due("letter(2, true, 3)", x.letter(2, true, 3), -1);
        CHECK.due("letter(2, true, -1)", x.letter(2, true, -1), -1);
        CHECK.due("letter(4, false, 0)", x.letter(4, false, 0), 'i');
        CHECK.due("letter of SOFT", x.letter(5, false, 0), -1);
        int[] wrong = {-1, 6, Integer.MIN_VALUE, Integer.MAX_VALUE};
        for (int n : wrong) {
            CHECK.due("letter(" + n + ", false, 0)", x.letter(n, false, 0), -1);
            CHECK.due("letter(" + n + ", true, 0)", x.letter(n, true, 0), -1);
            CHECK.due("letter(1, false, " + n + ")", x.letter(1, false, n), -1);
            CHECK.due("letter(2, true, " + n + ")", x.letter(2, true, n), -1);
        }
    }

    private static void oneText() {
        CHECK.dueNodes("a\\*b&amp;[c]!d]*e <f`g_h", "TEXT@-1/1=\"a*b&[c]!d]*e <f`g_h\"");
        CHECK.dueNodes("*a*", "EMPHASIS@-1/1 TEXT@0/2=\"a\"");
        CHECK.dueNodes("**a*b", "TEXT@-1/1=\"**a*b\"");
        CHECK.dueNodes("**a* b", "TEXT@-1/1=\"*\" EMPHASIS@-1/1 TEXT@1/2=\"a\" TEXT@-1/1=\" b\"");
    }
}
