import java.util.Random;

/** Whatever is called, nothing but the document's exceptions is thrown, and the nodes are sound. */
public final class SoundTest {
    private static final String[] SIGNS = {"a", "b", " ", "  ", "\n", "\t", "*", "**", "***", "_", "__", "`", "``", "[",
        "]", "![", "](", "](u)", "](<v w> 't')", "[a]", "[]", "(", ")", "<", ">", "<ab:c>", "<a@b>", "\\", "\"", "'",
        "&amp;", "&#65;", "&#x0;", "&", ";", "!", ".", "\u00A0", "\u00BF", "\1", "\u007F"};

    private static final Check CHECK = new Check();

    public static void main(String[] args) {
        Random random = new Random(20);
        for (int run = 0; run < 3000; run++) {
            MarkInlines x = Check.with(text(random, SIGNS, run % 10 == 0 ? 400 : 30));
            String text = read(x);
            if (x.about(2) != MarkInlines.NONE) {
                sound(x, text);
            }
            CHECK.due("read again", read(x), text);
        }
        for (int run = 0; run < 1000; run++) {
            readBehindAnother(random);
        }
        for (int run = 0; run < 300; run++) {
            strayCalls(random);
        }
        CHECK.end();
    }

    private static String text(Random random, String[] signs, int most) {
        StringBuilder text = new StringBuilder();
        int n = random.nextInt(most);
        for (int i = 0; i < n; i++) {
            text.append(signs[random.nextInt(signs.length)]);
        }
        return text.substring(0, Math.min(1500, text.length()));
    }

    private static String read(MarkInlines x) {
        return Check.readAndWritten(x);
    }

    private static void sound(MarkInlines x, String text) {
        for (int k = 0; k < x.about(2); k++) {
            int holder = x.node(k, 1);
            boolean held = holder < k && (holder == MarkInlines.NONE || x.node(holder, 0) >= 4);
            int depth = holder == MarkInlines.NONE ? 1 : x.node(holder, 5) + 1;
            boolean deep = x.node(k, 5) == depth && depth <= 20;
            boolean apart = k == 0 || x.node(k, 0) != 0 || x.node(k - 1, 0) != 0 || x.node(k - 1, 1) != holder;
            boolean filled = x.node(k, 0) != 0 && x.node(k, 0) != 3 || x.node(k, 2) > 0;
            boolean noLinkInLink = true;
            for (int up = holder; up != MarkInlines.NONE; up = x.node(up, 1)) {
                noLinkInLink = noLinkInLink && !(x.node(k, 0) == 6 && x.node(up, 0) == 6);
            }
            boolean all = held && deep && apart && filled && noLinkInLink;
            CHECK.due("node " + k + " of what is written " + text, all ? 1 : 0, 1);
        }
    }

    /** That nothing of an earlier text is left in a later one. */
    private static void readBehindAnother(Random random) {
        String later = text(random, SIGNS, 20);
        MarkInlines used = new MarkInlines();
        MarkInlines fresh = new MarkInlines();
        Check.load(used, "xyz");
        used.define();
        Check.load(used, text(random, SIGNS, 20) + "[xyz]");
        read(used);
        used.drop();
        Check.load(used, "a");
        used.define();
        Check.load(used, later);
        Check.load(fresh, "a");
        fresh.define();
        Check.load(fresh, later);
        CHECK.due("later " + later, read(used), read(fresh));
        CHECK.due("nodes of later " + later, Check.nodes(used), Check.nodes(fresh));
    }

    private static void strayCalls(Random random) {
        MarkInlines x = new MarkInlines();
        for (int call = 0; call < 512; call++) {
            String thrown = "nothing";
            int which = random.nextInt(13);
            try {
                stray(x, random, which);
            } catch (RuntimeException e) {
                thrown = e.getClass().getSimpleName();
            }
            boolean fine = thrown.equals("nothing")
                    || (which == 3 || which == 5) && thrown.equals("IllegalArgumentException")
                    || which == 3 && thrown.equals("IllegalStateException")
                    || which == 9 && thrown.equals("IndexOutOfBoundsException")
                    || which == 10 && thrown.equals("IllegalStateException");
            CHECK.due("call of kind " + which + " threw " + thrown, fine ? 1 : 0, 1);
        }
    }

    private static void stray(MarkInlines x, Random random, int which) {
        int k = random.nextInt(5) == 0 ? random.nextInt() : random.nextInt(24) - 2;
        int what = random.nextInt(5) == 0 ? random.nextInt() : random.nextInt(8) - 1;
        switch (which) {
            case 0:
                x.feed(signs(random), signs(random), signs(random), random.nextInt(), signs(random));
                break;
            case 1:
                x.end(k);
                break;
            case 2:
                if (random.nextInt(8) == 0) {
                    x.wipe();
                }
                break;
            case 3:
                x.define();
                break;
            case 4:
                if (random.nextInt(8) == 0) {
                    x.drop();
                }
                break;
            case 5:
                x.read();
                break;
            case 6:
                x.fault(what);
                break;
            case 7:
                x.node(k, what);
                break;
            case 8:
                x.letter(k, random.nextBoolean(), what);
                break;
            case 9:
                x.plain(k);
                break;
            case 10:
                x.write();
                break;
            case 11:
                x.output(k);
                break;
            default:
                x.about(what);
                break;
        }
    }

    private static int signs(Random random) {
        String signs = "ab *_`[]()!<>\\\n";
        int four = 0;
        for (int i = 0; i < 4; i++) {
            four = four << 8 | signs.charAt(random.nextInt(signs.length()));
        }
        return four;
    }
}
