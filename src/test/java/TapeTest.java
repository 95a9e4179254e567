/** Promises 1 to 4 and 14: a new object, feed, end, wipe, about. */
public final class TapeTest {
    private static final Check CHECK = new Check();

    public static void main(String[] args) {
        aNewObject();
        feedAndEnd();
        whatIsReady();
        wrongEnds();
        theLimit();
        wiping();
        about();
        CHECK.end();
    }

    private static void aNewObject() {
        MarkInlines x = new MarkInlines();
        CHECK.due("new: about(0)", x.about(0), 0);
        CHECK.due("new: about(1)", x.about(1), 0);
        CHECK.due("new: about(2)", x.about(2), -1);
        CHECK.due("new: about(3)", x.about(3), 0);
        CHECK.due("new: fault(0)", x.fault(0), 0);
        CHECK.due("new: fault(1)", x.fault(1), -1);
        CHECK.due("new: node(0, 0)", x.node(0, 0), -1);
        CHECK.due("new: letter(0, false, 0)", x.letter(0, false, 0), -1);
        CHECK.due("new: output(0)", x.output(0), -1);
        CHECK.dueThrow("new: plain(0)", () -> x.plain(0), IndexOutOfBoundsException.class);
        CHECK.dueThrow("new: write()", x::write, IllegalStateException.class);
        CHECK.dueThrow("new: define()", x::define, IllegalArgumentException.class);
        CHECK.due("new: read()", x.read(), 0);
        CHECK.due("new: write() of nothing", x.write(), 0);
    }

    private static void feedAndEnd() {
        MarkInlines x = new MarkInlines();
        x.feed(0x61626364, 0x65666768, 0x696A6B6C, 0x6D6E6F70, 0x717273FF);
        CHECK.due("end(20)", x.end(20), 20);
        x.feed(0x80000000, 0, 0, 0, 0);
        CHECK.due("end(1)", x.end(1), 21);
        x.read();
        CHECK.due("twenty in their order", Check.letters(x, 0, false), "abcdefghijklmnopqrs\u00FF\u0080");
    }

    private static void whatIsReady() {
        MarkInlines x = new MarkInlines();
        CHECK.due("end(2) with nothing fed", x.end(2), 2);
        x.feed(0x61626364, 0, 0, 0, 0);
        CHECK.due("end(21)", x.end(21), -1);
        CHECK.due("end(2) behind one that failed", x.end(2), 4);
        CHECK.due("end(2) with nothing fed since", x.end(2), 6);
        x.feed(0x65000000, 0, 0, 0, 0);
        CHECK.due("end(0)", x.end(0), 6);
        CHECK.due("end(1) behind end(0)", x.end(1), 7);
        x.feed(0x61626364, 0x61626364, 0, 0, 0);
        x.feed(0x66000000, 0, 0, 0, 0);
        CHECK.due("end(5) behind two feeds", x.end(5), 12);
        x.read();
        CHECK.due("what came", Check.letters(x, 0, false), "\0\0ab\0\0\0f\0\0\0\0");
    }

    private static void wrongEnds() {
        MarkInlines x = Check.with("ab");
        int[] wrong = {-1, 21, Integer.MIN_VALUE, Integer.MAX_VALUE};
        for (int n : wrong) {
            CHECK.due("end(" + n + ")", x.end(n), -1);
            CHECK.due("about(0) then", x.about(0), 2);
        }
    }

    private static void theLimit() {
        MarkInlines x = Check.with("a".repeat(1490));
        x.feed(0x62626262, 0x62626262, 0x62636363, 0, 0);
        CHECK.due("end(11) with 1490", x.end(11), -1);
        CHECK.due("about(0) then", x.about(0), 1490);
        CHECK.due("end(9) with 1490", x.end(9), 1499);
        CHECK.due("end(1) with 1499", x.end(1), 1500);
        CHECK.due("end(0) with 1500", x.end(0), 1500);
        CHECK.due("end(1) with 1500", x.end(1), -1);
        CHECK.due("read() of 1500", x.read(), 1);
        CHECK.due("length of 1500", x.node(0, 2), 1500);
        CHECK.due("letter 1498", x.letter(0, false, 1498), 'b');
        CHECK.due("letter 1499", x.letter(0, false, 1499), 0);
    }

    private static void wiping() {
        MarkInlines x = Check.with("ab");
        x.read();
        x.feed(0x63000000, 0, 0, 0, 0);
        x.wipe();
        CHECK.due("about(0) behind wipe()", x.about(0), 0);
        CHECK.due("what was read stays", Check.nodes(x), "TEXT@-1/1=\"ab\"");
        CHECK.due("what is ready stays", x.end(1), 1);
        x.read();
        CHECK.due("what was ready", x.letter(0, false, 0), 'c');
    }

    private static void about() {
        MarkInlines x = Check.with("r");
        x.define();
        Check.load(x, "*a* \"");
        x.read();
        CHECK.due("about(3) ahead of any output", x.about(3), 0);
        x.write();
        CHECK.due("about(0)", x.about(0), 5);
        CHECK.due("about(1)", x.about(1), 1);
        CHECK.due("about(2)", x.about(2), 3);
        CHECK.due("about(3)", x.about(3), 17);
        x.plain(2);
        CHECK.due("about(3) behind plain", x.about(3), 2);
        int[] wrong = {-1, 4, Integer.MIN_VALUE, Integer.MAX_VALUE};
        for (int what : wrong) {
            CHECK.due("about(" + what + ")", x.about(what), -1);
        }
    }
}
