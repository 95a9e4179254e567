import java.util.ArrayList;
import java.util.Arrays;
import java.util.List;
import java.util.Random;
import java.util.regex.Matcher;
import java.util.regex.Pattern;

/**
 * Compares the class, on texts that are made up, with a second reader of the document. That one works another way:
 * by patterns, and by lists of items that move into one another. How many texts and which may be told as arguments.
 */
public final class ModelTest {
    private static final String[] ALL = {"a", "b", "Z", "0", " ", "  ", "\n", "\t", "*", "**", "***", "_", "__", "`",
        "``", "[", "]", "![", "](", "](u)", "](<v w> 't')", "[a]", "[]", "[B ]", "(", ")", "<", ">", "<ab:c>",
        "<a@b>", "\\", "\"", "'", "&amp;", "&#65;", "&#0;", "&quot;", "&", ";", "!", ".", "\u00A0", "\u00BF", "\1",
        "\u007F", "\u00E4", "\r"};
    private static final String[] RUNS = {"*", "*", "**", "***", "_", "_", "__", "___", "a", "b", " ", ".", "\u00A0",
        "\u00B7", "[", "](u)", "\\", "`", "\n"};
    private static final String[] LINKS = {"[", "[", "]", "]", "![", "a", "b", "a", "[]", "[a]", "[ b\n]", "](u)",
        "](", ")", "(", " ", "\\", "*", "_", "<ab:>", "`", "\n", "[ ]", "[c]", "[a\\]]"};
    private static final String[] FORMS = {"[a](", "![a](", "<", ">", "(", ")", "(", ")", "\"", "\"", "'", "'", "\\",
        "\\", " ", " ", "\n", "u", "v", "&#34;", "&#1;", "&#x1F;", "&euro;", "&", "\t", "\u007F", "\2", "\u00FF"};
    private static final String[] SIGNS = {"<", "<", ">", "a", "b1", "z", ":", "@", ".", "-", "_", "+", ",", "/", "!",
        "?", "&", "#", "x", "X", "0", "1", "F", ";", "amp", "mdash", "65534", "FFFF", "55296", "`", "``", " ", "\n",
        "\\"};
    private static final String[][] PIECES = {ALL, RUNS, LINKS, FORMS, SIGNS};
    private static final String[] LABELS = {"a", " B\t", "a\\]", "c d"};

    private static final Check CHECK = new Check();

    public static void main(String[] args) {
        int texts = args.length > 0 ? Integer.parseInt(args[0]) : 20000;
        Random random = new Random(args.length > 1 ? Long.parseLong(args[1]) : 3);
        for (int i = 0; i < texts; i++) {
            compare(i % 50 == 49 ? nested(random) : text(random, PIECES[i % PIECES.length], i % 50 < 5 ? 60 : 16));
        }
        CHECK.end();
    }

    private static String text(Random random, String[] pieces, int most) {
        StringBuilder text = new StringBuilder();
        int n = random.nextInt(most + 1);
        for (int i = 0; i < n; i++) {
            text.append(pieces[random.nextInt(pieces.length)]);
        }
        return text.toString();
    }

    /** About as deep as nodes may be, with a few pieces that may bring it out of order. */
    private static String nested(Random random) {
        String[] openings = {"*a ", "**b ", "_c ", "![", "[", "***d "};
        String[] closings = {" a*", " b**", " c_", "](u)", "](v)", " d***"};
        StringBuilder text = new StringBuilder("e");
        int levels = 8 + random.nextInt(16);
        for (int i = 0; i < levels; i++) {
            int which = random.nextInt(random.nextInt(4) == 0 ? openings.length : 4);
            text.insert(0, openings[which]).append(closings[which]);
        }
        for (int i = random.nextInt(3); i > 0; i--) {
            text.insert(random.nextInt(text.length()), ALL[random.nextInt(ALL.length)]);
        }
        return text.toString();
    }

    private static void compare(String text) {
        Model model = new Model(text);
        CHECK.due("written: " + text, Check.readAndWritten(loaded(text)), model.written());
        if (model.fault == 0) {
            MarkInlines x = loaded(text);
            CHECK.due("how many nodes: " + text, x.read(), model.nodes.size());
            CHECK.due("nodes: " + text, Check.nodes(x), model.told());
            for (int k = 0; k < model.nodes.size(); k++) {
                String plain = model.nodes.get(k).plain();
                CHECK.due("plain " + k + ": " + text, x.plain(k), plain.codePointCount(0, plain.length()));
                CHECK.due("plain " + k + ": " + text, Check.output(x), plain);
            }
        }
    }

    private static MarkInlines loaded(String text) {
        MarkInlines x = new MarkInlines();
        for (String label : LABELS) {
            Check.load(x, label);
            x.define();
        }
        Check.load(x, text);
        return x;
    }

    /** What stands in a text: a node, or a run or a bracket that may become part of one. */
    private static final class Item {
        static final List<String> KINDS =
                Arrays.asList("TEXT", "SOFT", "HARD", "CODING", "EMPHASIS", "STRONG", "LINK", "IMAGE");

        final String kind;
        /** The text or target; of a run, the signs that are left. */
        String text;
        String title = "";
        int definition = -1;
        List<Item> held = new ArrayList<>();
        int number;
        int holder;
        int depth;
        // of a run
        int length;
        boolean opens;
        boolean closes;
        // of a bracket
        boolean dead;
        boolean otherMet;
        int behind;

        Item(String kind, String text) {
            this.kind = kind;
            this.text = text;
        }

        boolean is(String... some) {
            return Arrays.asList(some).contains(kind);
        }

        String plain() {
            if (is("SOFT", "HARD")) {
                return " ";
            }
            return is("TEXT", "CODING") ? text : joined(held, false);
        }

        String written() {
            String target = definition < 0 ? safe(text) : "#" + definition;
            String titled = title.isEmpty() ? "" : " title=\"" + safe(title) + "\"";
            switch (kind) {
                case "SOFT":
                    return "\n";
                case "HARD":
                    return "<br/>\n";
                case "CODING":
                    return "<code>" + safe(text) + "</code>";
                case "EMPHASIS":
                    return "<em>" + joined(held, true) + "</em>";
                case "STRONG":
                    return "<strong>" + joined(held, true) + "</strong>";
                case "LINK":
                    return "<a href=\"" + target + "\"" + titled + ">" + joined(held, true) + "</a>";
                case "IMAGE":
                    return "<img src=\"" + target + "\" alt=\"" + safe(plain()) + "\"" + titled + "/>";
                default:
                    return safe(text);
            }
        }

        static String joined(List<Item> items, boolean written) {
            StringBuilder all = new StringBuilder();
            for (Item item : items) {
                all.append(written ? item.written() : item.plain());
            }
            return all.toString();
        }

        static String safe(String text) {
            return text.replace("&", "&amp;").replace("<", "&lt;").replace(">", "&gt;").replace("\"", "&quot;");
        }

        /** As Check.nodes tells a node. */
        String told() {
            return kind + "@" + holder + "/" + depth + (text.isEmpty() ? "" : "=\"" + text + "\"")
                    + (title.isEmpty() ? "" : "~\"" + title + "\"") + (definition < 0 ? "" : "#" + definition);
        }
    }

    /** The second reader. */
    private static final class Model {
        static final String WHITE = "[\\t\\n\\r ]";
        static final String ASCII_PUNCTUATION = "[!-/:-@\\[-`{-~]";
        static final String PUNCTUATION = "[!-/:-@\\[-`{-~\\xA1\\xA7\\xAB\\xB6\\xB7\\xBB\\xBF]";
        static final String BLANK = "[\\t\\n\\r \\xA0]";

        static final Pattern GAP = Pattern.compile(" *+(?:\\n *+)?+");
        static final Pattern LABEL = Pattern.compile("\\[((?:[^\\[\\]\\\\]|\\\\.)*+)\\]", Pattern.DOTALL);
        static final Pattern ANGLES = Pattern.compile("<((?:[^\\n<>\\\\]|\\\\[^\\n])*+)>");
        static final Pattern ROW = Pattern.compile("[^\\x00-\\x20\\x7F]++");
        static final Pattern TITLE = Pattern.compile(
                "(?:\"(?:[^\"\\\\]|\\\\.)*+\"|'(?:[^'\\\\]|\\\\.)*+'|\\((?:[^()\\\\]|\\\\.)*+\\))", Pattern.DOTALL);
        static final Pattern ADDRESS =
                Pattern.compile("<([A-Za-z][A-Za-z0-9+\\-.]{1,31}:[^\\x00-\\x20<>\\x7F]*)>");
        static final Pattern MAIL =
                Pattern.compile("<([A-Za-z0-9.\\-_+]+@[A-Za-z0-9](?:[A-Za-z0-9.\\-_+]*[A-Za-z0-9])?)>");
        static final Pattern RAW = Pattern.compile("<(?:[A-Za-z!?]|/[A-Za-z]).*>", Pattern.DOTALL);
        static final Pattern REFERENCE = Pattern.compile("&(?:#([0-9]{1,7})|#[xX]([0-9A-Fa-f]{1,6})|(amp|lt|gt|quot"
                + "|apos|nbsp|copy|reg|auml|ouml|uuml|szlig|eacute|euro|hellip|mdash));");
        static final String NAMES = "amp lt gt quot apos nbsp copy reg auml ouml uuml szlig eacute euro hellip mdash";
        static final String NAMED = "&<>\"'\u00A0\u00A9\u00AE\u00E4\u00F6\u00FC\u00DF\u00E9\u20AC\u2026\u2014";

        final String text;
        final List<String> labels = new ArrayList<>();
        final List<Item> items = new ArrayList<>();
        /** Brackets that are there. */
        final List<Item> brackets = new ArrayList<>();
        final List<Item> nodes = new ArrayList<>();
        int fault = 0;
        int place = -1;

        Model(String text) {
            this.text = text;
            for (String label : LABELS) {
                labels.add(normal(label));
            }
            int p = 0;
            while (p < text.length() && fault == 0) {
                p = take(p);
            }
            if (fault == 0) {
                pair(items);
                number(finished(items), -1, 1);
            }
        }

        String written() {
            if (fault != 0) {
                return "fault " + fault + " at " + place;
            }
            StringBuilder all = new StringBuilder();
            for (Item node : nodes) {
                all.append(node.holder < 0 ? node.written() : "");
            }
            return all.toString();
        }

        String told() {
            List<String> all = new ArrayList<>();
            for (Item node : nodes) {
                all.add(node.told());
            }
            return String.join(" ", all);
        }

        static String normal(String label) {
            String one = label.replaceAll(WHITE + "+", " ").replaceAll("\\A | \\z", "");
            StringBuilder small = new StringBuilder();
            for (char c : one.toCharArray()) {
                small.append(c >= 'A' && c <= 'Z' ? Character.toLowerCase(c) : c);
            }
            return small.toString();
        }

        static boolean canBeLabel(String between) {
            Matcher label = LABEL.matcher("[" + between + "]");
            return label.lookingAt() && label.end() == between.length() + 2 && isShortAndNotWhite(between);
        }

        static boolean isShortAndNotWhite(String between) {
            return between.length() >= 1 && between.length() <= 100 && !between.matches(WHITE + "*");
        }

        /** The pattern just at a place, or null. */
        Matcher at(Pattern pattern, int p) {
            Matcher matcher = pattern.matcher(text).region(p, text.length());
            return matcher.lookingAt() ? matcher : null;
        }

        int takeText(String what, int next) {
            items.add(new Item("TEXT", what));
            return next;
        }

        /** Reads what stands at a place: the place behind it. */
        int take(int p) {
            char c = text.charAt(p);
            String two = text.substring(p, Math.min(p + 2, text.length()));
            if (c == '\n') {
                return takeLineEnd(p);
            }
            if (two.equals("\\\n")) {
                items.add(new Item("HARD", ""));
                return p + 2;
            }
            if (two.matches("\\\\" + ASCII_PUNCTUATION)) {
                return takeText(two.substring(1), p + 2);
            }
            if (c == '`') {
                return takeTicks(p);
            }
            if (c == '<') {
                return takeAngle(p);
            }
            if (c == '&') {
                return takeReference(p);
            }
            if (c == '*' || c == '_') {
                return takeRun(p);
            }
            if (c == '[' || two.equals("![")) {
                return takeBracket(c == '[' ? "[" : "![", p);
            }
            return c == ']' ? takeClosing(p) : takeText(String.valueOf(c), p + 1);
        }

        int takeLineEnd(int p) {
            String ahead = text.substring(0, p);
            int spaces = p - ahead.replaceAll(" +\\z", "").length();
            for (int i = 0; i < spaces; i++) {
                items.remove(items.size() - 1);
            }
            items.add(new Item(spaces >= 2 ? "HARD" : "SOFT", ""));
            return p + 1;
        }

        int takeTicks(int p) {
            Matcher rows = Pattern.compile("`+").matcher(text).region(p, text.length());
            rows.find();
            String row = rows.group();
            int from = rows.end();
            while (rows.find()) {
                if (rows.group().equals(row)) {
                    String code = text.substring(from, rows.start()).replace('\n', ' ');
                    boolean strip = code.startsWith(" ") && code.endsWith(" ") && !code.matches(" *");
                    items.add(new Item("CODING", strip ? code.substring(1, code.length() - 1) : code));
                    return rows.end();
                }
            }
            return takeText(row, from);
        }

        int takeAngle(int p) {
            Matcher address = at(ADDRESS, p);
            Matcher found = address != null ? address : at(MAIL, p);
            if (found != null) {
                Item link = new Item("LINK", (address != null ? "" : "mailto:") + found.group(1));
                link.held.add(new Item("TEXT", found.group(1)));
                items.add(link);
                killLinks();
                return found.end();
            }
            if (at(RAW, p) != null) {
                fault = 2;
                place = p;
            }
            return takeText("<", p + 1);
        }

        int takeReference(int p) {
            Matcher reference = at(REFERENCE, p);
            if (reference == null) {
                return takeText("&", p + 1);
            }
            int told = toldBy(reference);
            if (isForbidden(told)) {
                fault = 1;
                place = p;
            }
            return takeText(Character.toString(told), reference.end());
        }

        static int toldBy(Matcher reference) {
            if (reference.group(3) != null) {
                return NAMED.charAt(Arrays.asList(NAMES.split(" ")).indexOf(reference.group(3)));
            }
            int told = reference.group(1) != null
                    ? Integer.parseInt(reference.group(1)) : Integer.parseInt(reference.group(2), 16);
            return told == 0 || told > 1114111 || told >= 55296 && told <= 57343 ? 65533 : told;
        }

        static boolean isForbidden(int c) {
            return c < 32 && "\t\n\r".indexOf(c) < 0 || c == 65534 || c == 65535;
        }

        static String unescaped(String raw) {
            Matcher parts = Pattern.compile("\\\\(" + ASCII_PUNCTUATION + ")|" + REFERENCE.pattern()).matcher(raw);
            StringBuilder all = new StringBuilder();
            int done = 0;
            while (parts.find()) {
                all.append(raw, done, parts.start());
                if (parts.group(1) != null) {
                    all.append(parts.group(1));
                } else {
                    Matcher reference = REFERENCE.matcher(parts.group());
                    reference.lookingAt();
                    int told = toldBy(reference);
                    all.appendCodePoint(isForbidden(told) ? 65533 : told);
                }
                done = parts.end();
            }
            return all.append(raw.substring(done)).toString();
        }

        int takeRun(int p) {
            Matcher row = at(Pattern.compile(text.charAt(p) == '*' ? "\\*+" : "_+"), p);
            String ahead = p > 0 ? text.substring(p - 1, p) : "\n";
            String behind = row.end() < text.length() ? text.substring(row.end(), row.end() + 1) : "\n";
            boolean left = leans(behind, ahead);
            boolean right = leans(ahead, behind);
            Item run = new Item("RUN", row.group());
            run.length = row.group().length();
            run.opens = left && (text.charAt(p) == '*' || !right || ahead.matches(PUNCTUATION));
            run.closes = right && (text.charAt(p) == '*' || !left || behind.matches(PUNCTUATION));
            items.add(run);
            return row.end();
        }

        static boolean leans(String near, String far) {
            if (near.matches(BLANK)) {
                return false;
            }
            return !near.matches(PUNCTUATION) || far.matches(BLANK) || far.matches(PUNCTUATION);
        }

        /** Pairs the runs of a list; those that are left become texts. */
        static void pair(List<Item> list) {
            int i = 0;
            while (i < list.size()) {
                Item closer = list.get(i);
                int j = closer.is("RUN") && closer.closes && !closer.text.isEmpty() ? openerOf(list, i) : -1;
                if (j < 0) {
                    i++;
                    continue;
                }
                Item opener = list.get(j);
                int signs = Math.min(2, Math.min(opener.text.length(), closer.text.length()));
                Item pair = new Item(signs == 2 ? "STRONG" : "EMPHASIS", "");
                List<Item> between = list.subList(j + 1, i);
                pair.held.addAll(between);
                between.clear();
                pair.held.replaceAll(item -> item.is("RUN") ? new Item("TEXT", item.text) : item);
                list.add(j + 1, pair);
                opener.text = opener.text.substring(signs);
                closer.text = closer.text.substring(signs);
                i = j + 2;
            }
            list.replaceAll(item -> item.is("RUN") ? new Item("TEXT", item.text) : item);
        }

        static int openerOf(List<Item> list, int i) {
            Item closer = list.get(i);
            for (int j = i - 1; j >= 0; j--) {
                Item opener = list.get(j);
                boolean fits = opener.is("RUN") && opener.opens && !opener.text.isEmpty()
                        && opener.text.charAt(0) == closer.text.charAt(0);
                if (fits && !clash(opener, closer)) {
                    return j;
                }
            }
            return -1;
        }

        static boolean clash(Item opener, Item closer) {
            boolean both = opener.opens && opener.closes || closer.opens && closer.closes;
            boolean multiples = opener.length % 3 == 0 && closer.length % 3 == 0;
            return both && (opener.length + closer.length) % 3 == 0 && !multiples;
        }

        void killLinks() {
            for (Item bracket : brackets) {
                bracket.dead |= bracket.text.equals("[");
            }
        }

        int takeBracket(String signs, int p) {
            for (Item bracket : brackets) {
                bracket.otherMet = true;
            }
            Item bracket = new Item("BRACKET", signs);
            bracket.behind = p + signs.length();
            items.add(bracket);
            brackets.add(bracket);
            return bracket.behind;
        }

        int takeClosing(int p) {
            if (brackets.isEmpty()) {
                return takeText("]", p + 1);
            }
            Item bracket = brackets.remove(brackets.size() - 1);
            Item link = new Item(bracket.text.equals("[") ? "LINK" : "IMAGE", "");
            int end = bracket.dead ? -1 : leadsTo(link, bracket, p + 1);
            if (end < 0) {
                return takeText("]", p + 1);
            }
            int at = items.indexOf(bracket);
            link.held.addAll(items.subList(at + 1, items.size()));
            pair(link.held);
            items.subList(at, items.size()).clear();
            items.add(link);
            if (link.is("LINK")) {
                killLinks();
            }
            return end;
        }

        /** Tells a link where it leads by what stands behind its ] : the place behind that, or -1 if it is none. */
        int leadsTo(Item link, Item bracket, int p) {
            int end = leadsOut(link, p);
            if (end >= 0) {
                return end;
            }
            Matcher label = at(LABEL, p);
            if (label != null && isShortAndNotWhite(label.group(1))) {
                link.definition = labels.indexOf(normal(label.group(1)));
                return link.definition < 0 ? -1 : label.end();
            }
            String between = text.substring(bracket.behind, p - 1);
            if (bracket.otherMet || !canBeLabel(between)) {
                return -1;
            }
            link.definition = labels.indexOf(normal(between));
            return link.definition < 0 ? -1 : text.startsWith("[]", p) ? p + 2 : p;
        }

        int leadsOut(Item link, int p) {
            if (!text.startsWith("(", p)) {
                return -1;
            }
            int q = at(GAP, p + 1).end();
            Matcher angles = at(ANGLES, q);
            String row = angles == null && !text.startsWith("<", q) ? row(q) : "";
            String target = angles != null ? angles.group(1) : row;
            q = angles != null ? angles.end() : q + row.length();
            int gap = at(GAP, q).end();
            Matcher title = gap > q ? at(TITLE, gap) : null;
            q = at(GAP, title != null ? title.end() : q).end();
            if (!text.startsWith(")", q)) {
                return -1;
            }
            link.text = unescaped(target);
            link.title = title == null ? "" : unescaped(title.group().substring(1, title.group().length() - 1));
            return q + 1;
        }

        /** The target without < and > at a place; empty if there is none. */
        String row(int p) {
            Matcher all = at(ROW, p);
            if (all == null) {
                return "";
            }
            int open = 0;
            int end = p;
            // What opens and closes nothing is made to look like another character.
            String signs = all.group().replaceAll("\\\\" + ASCII_PUNCTUATION, "..");
            for (char c : signs.toCharArray()) {
                if (c == ')' && open == 0) {
                    break;
                }
                open += c == '(' ? 1 : c == ')' ? -1 : 0;
                end++;
            }
            boolean ends = end == text.length() || text.substring(end, end + 1).matches("[)\\t\\n\\r ]");
            return open == 0 && ends ? text.substring(p, end) : "";
        }

        /** Brackets that stay as texts, texts side by side as one, and no empty ones. */
        static List<Item> finished(List<Item> list) {
            List<Item> all = new ArrayList<>();
            for (Item item : list) {
                Item last = all.isEmpty() ? null : all.get(all.size() - 1);
                boolean text = item.is("TEXT", "BRACKET");
                if (text && last != null && last.is("TEXT")) {
                    last.text += item.text;
                } else if (text && !item.text.isEmpty()) {
                    all.add(new Item("TEXT", item.text));
                } else if (!text) {
                    item.held = finished(item.held);
                    all.add(item);
                }
            }
            return all;
        }

        void number(List<Item> list, int holder, int depth) {
            for (Item item : list) {
                fault = depth > 20 ? 3 : fault;
                item.holder = holder;
                item.depth = depth;
                item.number = nodes.size();
                nodes.add(item);
                number(item.held, item.number, depth + 1);
            }
        }
    }
}
