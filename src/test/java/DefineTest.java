/** Promises 5 and 6: define and drop. */
public final class DefineTest {
    private static final Check CHECK = new Check();

    public static void main(String[] args) {
        numbers();
        normal();
        noLabels();
        labels();
        twenty();
        dropping();
        CHECK.end();
    }

    private static int define(MarkInlines x, String label) {
        Check.load(x, label);
        return x.define();
    }

    private static void numbers() {
        MarkInlines x = new MarkInlines();
        CHECK.due("define() a", define(x, "a"), 0);
        CHECK.due("the tape is empty", x.about(0), 0);
        CHECK.due("define() b", define(x, "b"), 1);
        CHECK.due("define() a again", define(x, "A"), 0);
        CHECK.due("the tape is empty then, too", x.about(0), 0);
        CHECK.due("about(1)", x.about(1), 2);
    }

    private static void normal() {
        MarkInlines x = new MarkInlines();
        CHECK.due("define()", define(x, " \t\n\rAb \r\n\t cZ\t"), 0);
        CHECK.due("the same, normal", define(x, "ab cz"), 0);
        CHECK.due("other words", define(x, "abcz"), 1);
        CHECK.due("160 is not WHITE", define(x, "ab\u00A0cz"), 2);
        CHECK.due("a large letter not of A .. Z", define(x, "\u00C4"), 3);
        CHECK.due("its small one is another", define(x, "\u00E4"), 4);
        CHECK.due("@ is no letter", define(x, "@"), 5);
        CHECK.due("` is not its small one", define(x, "`"), 6);
        CHECK.due("[ is no letter", define(x, "\\["), 7);
        CHECK.due("{ is not its small one", define(x, "\\{"), 8);
        CHECK.due("a part of another", define(x, "ab"), 9);
    }

    private static void noLabels() {
        String[] none = {"", " ", " \t\n\r", "a[b", "a]b", "[", "]", "a\\", "\\", "\\\\\\", "a\\\\]", "a\\\\[b",
            "a".repeat(101), "\\]".repeat(51)};
        for (String text : none) {
            MarkInlines x = Check.with(text);
            CHECK.dueThrow("define() " + text, x::define, IllegalArgumentException.class);
            CHECK.due("the tape stays", x.about(0), text.length());
            CHECK.due("no definition", x.about(1), 0);
        }
    }

    private static void labels() {
        String[] fine = {"\\[", "\\]", "\\\\", "a\\]b\\[", "\\\\\\]", "\\a", "\0", "\u00A0", "\u00FF",
            "a".repeat(100), "\\]".repeat(50), " ".repeat(99) + "a"};
        for (String text : fine) {
            CHECK.due("define() " + text, Check.with(text).define(), 0);
        }
    }

    private static void twenty() {
        MarkInlines x = new MarkInlines();
        for (int i = 0; i < 20; i++) {
            CHECK.due("define() of " + i, define(x, "a".repeat(99) + (char) ('a' + i)), i);
        }
        Check.load(x, "other");
        CHECK.dueThrow("define() of one more", x::define, IllegalStateException.class);
        CHECK.due("the tape stays", x.about(0), 5);
        CHECK.due("about(1)", x.about(1), 20);
        Check.load(x, "a]");
        CHECK.dueThrow("define() of no label", x::define, IllegalArgumentException.class);
        CHECK.due("define() of one that is there", define(x, "a".repeat(99) + "T"), 19);
    }

    private static void dropping() {
        MarkInlines x = new MarkInlines();
        define(x, "a");
        define(x, "b");
        Check.load(x, "[b]");
        x.read();
        x.drop();
        CHECK.due("about(1)", x.about(1), 0);
        CHECK.due("the tape stays", x.about(0), 3);
        CHECK.due("what was read stays", Check.nodes(x), "LINK@-1/1#1 TEXT@0/2=\"b\"");
        x.write();
        CHECK.due("and is written so", Check.output(x), "<a href=\"#1\">b</a>");
        x.read();
        CHECK.due("the next read has no definition", Check.nodes(x), "TEXT@-1/1=\"[b]\"");
        CHECK.due("numbers begin anew", define(x, "b"), 0);
        CHECK.due("and what was there is not", define(x, "a"), 1);
        Check.load(x, "[b] [a]");
        x.read();
        CHECK.due("the new ones", Check.nodes(x),
                "LINK@-1/1#0 TEXT@0/2=\"b\" TEXT@-1/1=\" \" LINK@-1/1#1 TEXT@3/2=\"a\"");
        x.drop();
        for (int i = 0; i < 20; i++) {
            define(x, "n" + i);
        }
        CHECK.due("twenty more", x.about(1), 20);
    }
}
