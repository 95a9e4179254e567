/** Promises 1 to 14, and the FAULTS: what is refused, what stays then; above a test stand the document's words. */
public final class EdgesOfPromisesTest {
    private static final Check CHECK = new Check();
    private static final int[] STRAY = {-1, Integer.MIN_VALUE, Integer.MIN_VALUE + 1, -2, Integer.MAX_VALUE - 1,
        Integer.MAX_VALUE};

    public static void main(String[] args) {
        aNewObject();
        feed();
        readyCharacters();
        endsRefused();
        endsAtTheLimit();
        wipe();
        define();
        defineRefused();
        defineFull();
        drop();
        read();
        readRefused();
        furtherLeft();
        deep();
        faults();
        nodes();
        letters();
        plainRefused();
        writeRefused();
        outputs();
        abouts();
        nothingOfAnEarlierRead();
        twoObjects();
        manyCalls();
        CHECK.end();
    }

    /** An object with a definition, a text that was read and written, and a tape. */
    private static MarkInlines filled() {
        MarkInlines x = Check.with("r");
        x.define();
        Check.load(x, "*a*[b](cd 'efg')[r]\n");
        x.read();
        x.write();
        return x;
    }

    // Nothing on the tape, no definitions, nothing read.
    private static void aNewObject() {
        MarkInlines x = new MarkInlines();
        CHECK.due("all of a new object", Check.state(x), "0 0 -1 0 0 -1  ");
        CHECK.dueThrow("write()", x::write, IllegalStateException.class);
        CHECK.dueThrow("plain(0)", () -> x.plain(0), IndexOutOfBoundsException.class);
        for (int what = 0; what < 6; what++) {
            CHECK.due("node(0, " + what + ")", x.node(0, what), -1);
        }
        CHECK.due("letter(0, false, 0)", x.letter(0, false, 0), -1);
        CHECK.due("letter(0, true, 0)", x.letter(0, true, 0), -1);
        CHECK.due("output(0)", x.output(0), -1);
        x.wipe();
        x.drop();
        CHECK.due("wipe() and drop() change nothing", Check.state(x), "0 0 -1 0 0 -1  ");
    }

    // Puts twenty characters ready, those of a first, the highest byte of each first.
    private static void feed() {
        MarkInlines x = new MarkInlines();
        x.feed(0x01020304, 0x05060708, 0x0B0C0D0E, 0x0F101112, 0x13141516);
        x.end(20);
        x.read();
        for (int i = 0; i < 20; i++) {
            CHECK.due("character " + i, x.letter(0, false, i), i < 8 ? i + 1 : i + 3);
        }
        MarkInlines y = new MarkInlines();
        y.feed(-1, Integer.MIN_VALUE, Integer.MAX_VALUE, 0x80FF7F00, -2);
        y.end(20);
        y.read();
        int[] want = {255, 255, 255, 255, 128, 0, 0, 0, 127, 255, 255, 255, 128, 255, 127, 0, 255, 255, 255, 254};
        for (int i = 0; i < 20; i++) {
            CHECK.due("character " + i + " of others", y.letter(0, false, i), want[i]);
        }
        CHECK.due("feed() alone", feedAlone(), "0 0 -1 0 0 -1  ");
    }

    private static String feedAlone() {
        MarkInlines x = new MarkInlines();
        x.feed(1, 2, 3, 4, 5);
        return Check.state(x);
    }

    // (They are 0 at first, and behind each end() that answers a number.)
    private static void readyCharacters() {
        for (int n = 0; n <= 20; n++) {
            MarkInlines x = new MarkInlines();
            CHECK.due("end(" + n + ") at first", x.end(n), n);
            x.feed(0x61616161, 0x61616161, 0x61616161, 0x61616161, 0x61616161);
            CHECK.due("end(" + n + ")", x.end(n), 2 * n);
            CHECK.due("end(20) behind it", x.end(20), 2 * n + 20);
            x.read();
            CHECK.due("what came", Check.letters(x, 0, false), "\0".repeat(n) + "a".repeat(n) + "\0".repeat(20));
        }
    }

    // NONE, and nothing comes, if n is not 0 .. 20
    private static void endsRefused() {
        MarkInlines x = filled();
        x.feed(0x78797A00, 0, 0, 0, 0);
        String state = Check.state(x);
        for (int n : STRAY) {
            CHECK.due("end(" + n + ")", x.end(n), -1);
        }
        CHECK.due("end(21)", x.end(21), -1);
        CHECK.due("end(22)", x.end(22), -1);
        CHECK.due("nothing comes", Check.state(x), state);
        x.wipe();
        CHECK.due("end(3)", x.end(3), 3);
        x.read();
        CHECK.due("what was ready is so still", Check.letters(x, 0, false), "xyz");
    }

    // or it would have more than 1500
    private static void endsAtTheLimit() {
        for (int have = 1479; have <= 1500; have++) {
            MarkInlines x = Check.with("a".repeat(have));
            for (int n = 20; n > 1500 - have; n--) {
                CHECK.due("end(" + n + ") with " + have, x.end(n), -1);
                CHECK.due("about(0) then", x.about(0), have);
            }
            x.feed(0x62626262, 0x62626262, 0x62626262, 0x62626262, 0x62626262);
            int fits = Math.min(20, 1500 - have);
            CHECK.due("end(" + fits + ") with " + have, x.end(fits), have + fits);
            x.read();
            CHECK.due("characters read", x.node(0, 2), have + fits);
            CHECK.due("the last one", x.letter(0, false, have + fits - 1), fits > 0 ? 'b' : 'a');
        }
    }

    // The tape is empty.
    private static void wipe() {
        MarkInlines x = filled();
        x.wipe();
        CHECK.due("about(0)", x.about(0), 0);
        CHECK.due("about(1) stays", x.about(1), 1);
        CHECK.due("about(2) stays", x.about(2), 7);
        x.wipe();
        CHECK.due("about(0) of a tape that was empty", x.about(0), 0);
        CHECK.due("read()", x.read(), 0);
        MarkInlines full = Check.with("a".repeat(1500));
        full.wipe();
        CHECK.due("end(20) behind a full tape", full.end(20), 20);
    }

    // its number, or that which it has; the tape is empty then
    private static void define() {
        MarkInlines x = Check.with("a");
        CHECK.due("define() of the first", x.define(), 0);
        CHECK.due("about(0)", x.about(0), 0);
        Check.load(x, "b");
        CHECK.due("define() of the second", x.define(), 1);
        Check.load(x, " A ");
        CHECK.due("define() of the first again", x.define(), 0);
        CHECK.due("about(0)", x.about(0), 0);
        CHECK.due("about(1)", x.about(1), 2);
        CHECK.dueThrow("define() of the empty tape", x::define, IllegalArgumentException.class);
    }

    // IllegalArgumentException: [ the tape ] would be no LABEL.
    private static void defineRefused() {
        MarkInlines x = filled();
        for (String text : new String[] {"", " ", "\t\n\r ", "[", "]", "a]", "\\", "a".repeat(101), "a".repeat(1500)}) {
            Check.load(x, text);
            String state = Check.state(x);
            CHECK.dueThrow("define() of " + text, x::define, IllegalArgumentException.class);
            CHECK.due("all stays", Check.state(x), state);
        }
    }

    // IllegalStateException: there are 20 (others) already.
    private static void defineFull() {
        MarkInlines x = new MarkInlines();
        for (int i = 0; i < 20; i++) {
            Check.load(x, "n" + i);
            CHECK.due("define() of n" + i, x.define(), i);
        }
        for (int i = 20; i < 23; i++) {
            Check.load(x, "n" + i);
            String state = Check.state(x);
            CHECK.dueThrow("define() of n" + i, x::define, IllegalStateException.class);
            CHECK.due("all stays", Check.state(x), state);
        }
        for (int i = 0; i < 20; i++) {
            Check.load(x, "N" + i);
            CHECK.due("define() of n" + i + " again", x.define(), i);
        }
        Check.load(x, "n]");
        CHECK.dueThrow("define() of no label, with 20", x::define, IllegalArgumentException.class);
        x.drop();
        Check.load(x, "n20");
        CHECK.due("define() behind drop()", x.define(), 0);
        CHECK.due("about(1)", x.about(1), 1);
    }

    // All definitions go (what was read stays).
    private static void drop() {
        MarkInlines x = filled();
        String nodes = Check.nodes(x);
        String output = Check.output(x);
        x.drop();
        CHECK.due("about(1)", x.about(1), 0);
        CHECK.due("about(0) stays", x.about(0), 20);
        CHECK.due("nodes stay", Check.nodes(x), nodes);
        x.write();
        CHECK.due("and are written so", Check.output(x), output);
        x.drop();
        CHECK.due("about(1) again", x.about(1), 0);
        CHECK.due("read() has none", x.read(), 6);
    }

    // The tape is read (it stays): how many nodes.
    private static void read() {
        CHECK.due("read() of nothing", new MarkInlines().read(), 0);
        MarkInlines x = filled();
        CHECK.due("read()", x.read(), 7);
        CHECK.due("about(0)", x.about(0), 20);
        CHECK.due("read() again", x.read(), 7);
        CHECK.due("the output stays", x.about(3), 59);
        x.wipe();
        CHECK.due("read() of the empty tape", x.read(), 0);
        CHECK.due("about(2)", x.about(2), 0);
        CHECK.due("write()", x.write(), 0);
        CHECK.dueThrow("plain(0)", () -> x.plain(0), IndexOutOfBoundsException.class);
        CHECK.due("node(0, 0)", x.node(0, 0), -1);
        CHECK.due("read() of 1500 nodes", Check.with("\n".repeat(1500)).read(), 1500);
        CHECK.due("read() of 1500 characters", Check.with("a".repeat(1500)).read(), 1);
    }

    // IllegalArgumentException: a FAULT (nothing is read then).
    private static void readRefused() {
        String tooDeep = "![".repeat(21) + "](u)".repeat(21);
        String[] texts = {"a&#1;", "ab<b>", tooDeep};
        for (int i = 0; i < texts.length; i++) {
            MarkInlines x = filled();
            String output = Check.output(x);
            Check.load(x, texts[i]);
            CHECK.dueThrow("read() of " + texts[i], x::read, IllegalArgumentException.class);
            CHECK.due("fault(0)", x.fault(0), i + 1);
            CHECK.due("fault(1)", x.fault(1), i < 2 ? i + 1 : -1);
            CHECK.due("about(2)", x.about(2), -1);
            for (int k = 0; k < 8; k++) {
                int node = k;
                CHECK.due("node(" + k + ", 0)", x.node(k, 0), -1);
                CHECK.due("letter(" + k + ", false, 0)", x.letter(k, false, 0), -1);
                CHECK.due("letter(" + k + ", true, 0)", x.letter(k, true, 0), -1);
                CHECK.dueThrow("plain(" + k + ")", () -> x.plain(node), IndexOutOfBoundsException.class);
            }
            CHECK.dueThrow("write()", x::write, IllegalStateException.class);
            CHECK.due("the output stays", Check.output(x), output);
            CHECK.due("the tape stays", x.about(0), texts[i].length());
            CHECK.due("the definition stays", x.about(1), 1);
            CHECK.dueThrow("read() again", x::read, IllegalArgumentException.class);
        }
    }

    // FAULTS: of 1 and 2 the one further to the left, its place that of & or <; behind these 3
    private static void furtherLeft() {
        CHECK.dueWritten("&#1;<b>", "fault 1 at 0");
        CHECK.dueWritten("<b>&#1;", "fault 2 at 0");
        CHECK.dueWritten("<b&#1;>", "fault 2 at 0");
        CHECK.dueWritten("<b&#1;", "fault 1 at 2");
        CHECK.dueWritten("&#1;&#2;", "fault 1 at 0");
        CHECK.dueWritten("a<b><c>", "fault 2 at 1");
        String tooDeep = "![".repeat(21) + "](u)".repeat(21);
        CHECK.dueWritten(tooDeep + "&#1;", "fault 1 at 126");
        CHECK.dueWritten(tooDeep + "<b>", "fault 2 at 126");
        CHECK.dueWritten(tooDeep + "<b", "fault 3 at -1");
        CHECK.dueWritten(" ".repeat(1496) + "&#1;", "fault 1 at 1496");
        CHECK.dueWritten(" ".repeat(1497) + "<b>", "fault 2 at 1497");
    }

    // 3: a node that would be more than 20 deep (one that stands in the text itself is 1 deep), without a place.
    private static void deep() {
        String[] oneDeep = {"a", "\n", "  \n", "\\\n", "`a`", "[](u)", "![](u)"};
        for (String inner : oneDeep) {
            dueDeep(inner, 19, true);
            dueDeep(inner, 20, false);
        }
        String[] twoDeep = {"*a*", "**a**", "_`a`_", "[a](u)", "![a](u)", "<ab:>", "<a@b>", "*[](u)*"};
        for (String inner : twoDeep) {
            dueDeep(inner, 18, true);
            dueDeep(inner, 19, false);
        }
        dueDeep("", 20, true);
        dueDeep("", 21, false);
        dueDeep("***a***", 17, true);
        dueDeep("***a***", 18, false);
        dueDeep("a]", 19, true);
        MarkInlines x = Check.with("![".repeat(20) + "](u)".repeat(20));
        x.read();
        for (int k = 0; k < 20; k++) {
            CHECK.due("node(" + k + ", 5)", x.node(k, 5), k + 1);
        }
    }

    private static void dueDeep(String inner, int images, boolean fine) {
        String text = "![".repeat(images) + inner + "](u)".repeat(images);
        String written = Check.readAndWritten(Check.with(text));
        CHECK.due(text, written.equals("fault 3 at -1") ? "fault 3" : written.startsWith("fault") ? written : "fine",
                fine ? "fine" : "fault 3");
    }

    // Of the latest read(): its FAULT, 0 without (what = 0), its place (1; NONE without). NONE for another what.
    private static void faults() {
        MarkInlines x = Check.with("ab<c>");
        CHECK.due("fault(0) ahead of read()", x.fault(0), 0);
        CHECK.due("fault(1) ahead of read()", x.fault(1), -1);
        CHECK.dueThrow("read()", x::read, IllegalArgumentException.class);
        x.wipe();
        x.drop();
        x.feed(0x61000000, 0, 0, 0, 0);
        x.end(1);
        CHECK.due("fault(0) behind other calls", x.fault(0), 2);
        CHECK.due("fault(1) behind other calls", x.fault(1), 2);
        for (int what : STRAY) {
            CHECK.due("fault(" + what + ")", x.fault(what), -1);
        }
        CHECK.due("fault(2)", x.fault(2), -1);
        x.read();
        CHECK.due("fault(0) behind a read() without", x.fault(0), 0);
        CHECK.due("fault(1) behind a read() without", x.fault(1), -1);
        Check.load(x, "&#1;");
        CHECK.dueThrow("read()", x::read, IllegalArgumentException.class);
        CHECK.due("fault(1) at the first character", x.fault(1), 0);
        Check.load(x, "![".repeat(21) + "](u)".repeat(21));
        CHECK.dueThrow("read()", x::read, IllegalArgumentException.class);
        CHECK.due("fault(0) of 3", x.fault(0), 3);
        CHECK.due("fault(1) of 3", x.fault(1), -1);
    }

    // NONE if there is none such, or for another what.
    private static void nodes() {
        MarkInlines x = filled();
        for (int what = -1; what < 8; what++) {
            CHECK.due("node(7, " + what + ")", x.node(7, what), -1);
            for (int k : STRAY) {
                CHECK.due("node(" + k + ", " + what + ")", x.node(k, what), -1);
            }
        }
        for (int k = 0; k < 7; k++) {
            CHECK.due("node(" + k + ", 6)", x.node(k, 6), -1);
            for (int what : STRAY) {
                CHECK.due("node(" + k + ", " + what + ")", x.node(k, what), -1);
            }
        }
        // 0 of others, and of a target by a label .. NONE without a label
        int[][] want = {{4, -1, 0, 0, -1, 1}, {0, 0, 1, 0, -1, 2}, {6, -1, 2, 3, -1, 1}, {0, 2, 1, 0, -1, 2},
            {6, -1, 0, 0, 0, 1}, {0, 4, 1, 0, -1, 2}, {1, -1, 0, 0, -1, 1}};
        for (int k = 0; k < 7; k++) {
            for (int what = 0; what < 6; what++) {
                CHECK.due("node(" + k + ", " + what + ")", x.node(k, what), want[k][what]);
            }
        }
        MarkInlines many = Check.with("[a](u)".repeat(100) + "*b*__c__");
        many.read();
        CHECK.due("of EMPHASIS behind 100 links", many.node(200, 2), 0);
        CHECK.due("of STRONG behind 100 links", many.node(202, 2), 0);
        CHECK.dueNodes("![a][r]**b**  \n`c`", "IMAGE@-1/1#0 TEXT@0/2=\"a\" STRONG@-1/1 TEXT@2/2=\"b\" HARD@-1/1"
                + " CODING@-1/1=\"c\"", "r");
    }

    // Character i of a node's text, or of its title; NONE if there is none.
    private static void letters() {
        MarkInlines x = filled();
        for (int k = 0; k < 7; k++) {
            CHECK.due("letter(" + k + ", false, its length)", x.letter(k, false, x.node(k, 2)), -1);
            CHECK.due("letter(" + k + ", true, its length)", x.letter(k, true, x.node(k, 3)), -1);
            for (int i : STRAY) {
                CHECK.due("letter(" + k + ", false, " + i + ")", x.letter(k, false, i), -1);
                CHECK.due("letter(" + k + ", true, " + i + ")", x.letter(k, true, i), -1);
            }
        }
        for (int k : STRAY) {
            CHECK.due("letter(" + k + ", false, 0)", x.letter(k, false, 0), -1);
            CHECK.due("letter(" + k + ", true, 0)", x.letter(k, true, 0), -1);
        }
        CHECK.due("letter(7, false, 0)", x.letter(7, false, 0), -1);
        CHECK.due("letter(2, false, 0)", x.letter(2, false, 0), 'c');
        CHECK.due("letter(2, false, 1)", x.letter(2, false, 1), 'd');
        CHECK.due("letter(2, true, 0)", x.letter(2, true, 0), 'e');
        CHECK.due("letter(2, true, 2)", x.letter(2, true, 2), 'g');
    }

    // IndexOutOfBoundsException: there is no such node.
    private static void plainRefused() {
        MarkInlines x = filled();
        String state = Check.state(x);
        for (int k : STRAY) {
            CHECK.dueThrow("plain(" + k + ")", () -> x.plain(k), IndexOutOfBoundsException.class);
        }
        CHECK.dueThrow("plain(7)", () -> x.plain(7), IndexOutOfBoundsException.class);
        CHECK.due("all stays", Check.state(x), state);
        CHECK.due("plain(6)", x.plain(6), 1);
        CHECK.due("plain(0)", x.plain(0), 1);
    }

    // IllegalStateException: nothing is read.
    private static void writeRefused() {
        MarkInlines x = Check.with("a");
        CHECK.dueThrow("write() ahead of read()", x::write, IllegalStateException.class);
        x.read();
        CHECK.due("write()", x.write(), 1);
        Check.load(x, "<b>");
        CHECK.due("write() of what was read, with another tape", x.write(), 1);
        CHECK.dueThrow("read()", x::read, IllegalArgumentException.class);
        String state = Check.state(x);
        CHECK.dueThrow("write() behind a fault", x::write, IllegalStateException.class);
        CHECK.due("all stays", Check.state(x), state);
        CHECK.due("the output is that of earlier", Check.output(x), "a");
        x.wipe();
        x.read();
        CHECK.due("write() of nothing, which was read", x.write(), 0);
        CHECK.due("output(0)", x.output(0), -1);
    }

    // Character i of the output; NONE if there is none.
    private static void outputs() {
        MarkInlines x = filled();
        CHECK.due("output(58)", x.output(58), '\n');
        CHECK.due("output(59)", x.output(59), -1);
        for (int i : STRAY) {
            CHECK.due("output(" + i + ")", x.output(i), -1);
        }
        x.plain(1);
        CHECK.due("output(0) of a shorter one", x.output(0), 'a');
        CHECK.due("output(1) of a shorter one", x.output(1), -1);
        MarkInlines longest = Check.with("<ab:" + "\"".repeat(1495) + ">");
        longest.read();
        CHECK.due("write() of the longest", longest.write(), 12 * 1495 + 21);
        CHECK.due("its last character", longest.output(12 * 1495 + 20), '>');
        CHECK.due("none behind it", longest.output(12 * 1495 + 21), -1);
    }

    // nodes (2; NONE if nothing is read) .. NONE for another what.
    private static void abouts() {
        MarkInlines x = filled();
        CHECK.due("about(0)", x.about(0), 20);
        CHECK.due("about(1)", x.about(1), 1);
        CHECK.due("about(2)", x.about(2), 7);
        CHECK.due("about(3)", x.about(3), 59);
        CHECK.due("about(4)", x.about(4), -1);
        for (int what : STRAY) {
            CHECK.due("about(" + what + ")", x.about(what), -1);
        }
    }

    private static void nothingOfAnEarlierRead() {
        String[] earlier = {"[a", "![a", "*a", "_a **b", "***a", "[a](u 't')", "`a", "[[[<ab:>", "<b>", "[a *b &#1;"};
        for (String first : earlier) {
            dueBehind(first, "b](v)", "b](v)");
            dueBehind(first, "b*", "b*");
            dueBehind(first, "*b*", "<em>b</em>");
            dueBehind(first, "[b](v)", "<a href=\"v\">b</a>");
            dueBehind(first, "![b](v)[c]", "<img src=\"v\" alt=\"b\"/>[c]");
            dueBehind(first, "<a@b>", "<a href=\"mailto:a@b\">a@b</a>");
            dueBehind(first, "b`", "b`");
            dueBehind(first, "a*b**", "a*b**");
        }
    }

    private static void dueBehind(String first, String later, String want) {
        MarkInlines x = Check.with(first);
        Check.readAndWritten(x);
        Check.load(x, later);
        CHECK.due(later + " behind " + first, Check.readAndWritten(x), want);
        MarkInlines fresh = Check.with(later);
        fresh.read();
        CHECK.due("nodes of " + later + " behind " + first, Check.nodes(x), Check.nodes(fresh));
    }

    private static void twoObjects() {
        MarkInlines x = filled();
        String state = Check.state(x);
        MarkInlines y = Check.with("q");
        y.define();
        Check.load(y, "[q] **b**");
        y.read();
        y.write();
        CHECK.due("one object is not changed by another", Check.state(x), state);
        CHECK.due("the other one", Check.output(y), "<a href=\"#0\">q</a> <strong>b</strong>");
    }

    // An object is used for at most 512 calls
    private static void manyCalls() {
        MarkInlines x = Check.with("<a@b>".repeat(300));
        for (int call = 151; call <= 512; call += 3) {
            CHECK.due("read() of a full tape", x.read(), 600);
            CHECK.due("write() of a full tape", x.write(), 8400);
            CHECK.due("plain(599) of a full tape", x.plain(599), 3);
        }
        MarkInlines y = new MarkInlines();
        for (int call = 0; call < 508; call += 4) {
            y.feed(0x61610000 + (call % 80 / 4 << 16), 0, 0, 0, 0);
            y.end(2);
            CHECK.due("define()", y.define(), call % 80 / 4);
            CHECK.due("about(1)", y.about(1), Math.min(20, call / 4 + 1));
        }
    }
}
