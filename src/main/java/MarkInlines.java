import java.util.Arrays;

/** A reader of texts with marks among their words, and a writer of what was read. */
public final class MarkInlines {
    public static final int NONE = -1;

    private static final int TAPE_MOST = 1500;
    private static final int READY_MOST = 20;
    private static final int DEFINITIONS_MOST = 20;
    private static final int LABEL_MOST = 100;
    private static final int DEPTH_MOST = 20;
    // An address is kept twice, as target and as text, and mailto: is seven more: at worst 13 for the five of <a@b>.
    private static final int LETTERS_MOST = TAPE_MOST * 13 / 5;
    // An address is written twice, too, and a " in it as six characters.
    private static final int OUTPUT_MOST = TAPE_MOST * 12;

    private static final int TEXT = 0;
    private static final int SOFT = 1;
    private static final int HARD = 2;
    private static final int CODING = 3;
    private static final int EMPHASIS = 4;
    private static final int STRONG = 5;
    private static final int LINK = 6;
    private static final int IMAGE = 7;
    // What a place of the tape can be besides the beginning of a node.
    private static final int GONE = 8;
    private static final int CLOSING = 9;
    private static final int CODING_END = 10;

    private static final int FAULT_FORBIDDEN = 1;
    private static final int FAULT_RAW = 2;
    private static final int FAULT_DEEP = 3;

    private final Row ready;
    private final Row tape;
    private final Definitions definitions;
    private final Reader reader;
    private final Nodes nodes;
    private final Writer writer;
    private int latestFault;

    public MarkInlines() {
        ready = new Row(READY_MOST);
        ready.refill(READY_MOST, 0);
        tape = new Row(TAPE_MOST);
        Scan scan = new Scan(tape);
        References references = new References(tape);
        Marks marks = new Marks();
        definitions = new Definitions(tape, scan);
        reader = new Reader(tape, scan, references, marks, definitions);
        nodes = new Nodes(tape, references, marks);
        writer = new Writer(nodes);
        latestFault = 0;
    }

    public void feed(int a, int b, int c, int d, int e) {
        makeReady(0, a);
        makeReady(4, b);
        makeReady(8, c);
        makeReady(12, d);
        makeReady(16, e);
    }

    private void makeReady(int from, int four) {
        for (int i = 0; i < 4; i++) {
            ready.put(from + i, (four >>> (24 - 8 * i)) & 255);
        }
    }

    public int end(int n) {
        if (n < 0 || n > READY_MOST || tape.size() + n > TAPE_MOST) {
            return NONE;
        }
        for (int i = 0; i < n; i++) {
            tape.add(ready.at(i));
        }
        ready.refill(READY_MOST, 0);
        return tape.size();
    }

    public void wipe() {
        tape.cut(0);
    }

    public int define() throws IllegalArgumentException, IllegalStateException {
        if (!definitions.canBeLabel()) {
            throw new IllegalArgumentException("the tape is no label");
        }
        int number = definitions.numberOf(0, tape.size());
        if (number == NONE) {
            number = definitions.add();
        }
        if (number == NONE) {
            throw new IllegalStateException("there are too many definitions");
        }
        tape.cut(0);
        return number;
    }

    public void drop() {
        definitions.clear();
    }

    public int read() throws IllegalArgumentException {
        reader.markAll();
        latestFault = reader.faultKind;
        if (latestFault == 0 && !nodes.build()) {
            latestFault = FAULT_DEEP;
        }
        if (latestFault != 0) {
            nodes.forget();
            throw new IllegalArgumentException("the text has a fault");
        }
        return nodes.count();
    }

    public int fault(int what) {
        switch (what) {
            case 0:
                return latestFault;
            case 1:
                return reader.faultPlace;
            default:
                return NONE;
        }
    }

    public int node(int k, int what) {
        return nodes.tell(k, what);
    }

    public int letter(int k, boolean title, int i) {
        return nodes.letterOf(k, title, i);
    }

    public int plain(int k) throws IndexOutOfBoundsException {
        if (!nodes.has(k)) {
            throw new IndexOutOfBoundsException("there is no such node");
        }
        writer.makePlain(k);
        return writer.out.size();
    }

    public int write() throws IllegalStateException {
        if (nodes.count() == NONE) {
            throw new IllegalStateException("nothing is read");
        }
        writer.makeWritten();
        return writer.out.size();
    }

    public int output(int i) {
        return writer.out.at(i);
    }

    public int about(int what) {
        switch (what) {
            case 0:
                return tape.size();
            case 1:
                return definitions.count();
            case 2:
                return nodes.count();
            case 3:
                return writer.out.size();
            default:
                return NONE;
        }
    }

    /** Numbers in a row that grows up to a limit; every index is tested here, and none there answers NONE. */
    private static final class Row {
        private static final int FIRST_ROOM = 16;

        private final int most;
        private int[] cells;
        private int count;

        Row(int most) {
            this.most = most;
            cells = new int[FIRST_ROOM];
            count = 0;
        }

        int size() {
            return count;
        }

        int at(int i) {
            return i >= 0 && i < count && i < cells.length ? cells[i] : NONE;
        }

        void put(int i, int value) {
            if (i >= 0 && i < count && i < cells.length) {
                cells[i] = value;
            }
        }

        void add(int value) {
            if (count >= most) {
                return;
            }
            if (count >= cells.length) {
                cells = Arrays.copyOf(cells, 2 * cells.length);
            }
            cells[count] = value;
            count++;
        }

        void cut(int length) {
            if (length >= 0 && length < count) {
                count = length;
            }
        }

        void refill(int length, int value) {
            count = Math.max(0, Math.min(length, most));
            if (count > cells.length) {
                cells = new int[Math.max(count, 2 * cells.length)];
            }
            Arrays.fill(cells, 0, count, value);
        }
    }

    /** Which characters are of which kind. */
    private static final class Signs {
        static boolean isWhite(int c) {
            return c == 9 || c == 10 || c == 13 || c == 32;
        }

        static boolean isBlank(int c) {
            return isWhite(c) || c == 160;
        }

        static boolean isLetter(int c) {
            return c >= 'A' && c <= 'Z' || c >= 'a' && c <= 'z';
        }

        static boolean isLetterOrDigit(int c) {
            return c >= 'A' && c <= 'Z' || c >= 'a' && c <= 'z' || c >= '0' && c <= '9';
        }

        static boolean isAsciiPunctuation(int c) {
            return c >= 33 && c <= 47 || c >= 58 && c <= 64 || c >= 91 && c <= 96 || c >= 123 && c <= 126;
        }

        static boolean isPunctuation(int c) {
            return isAsciiPunctuation(c) || c == 161 || c == 167 || c == 171 || c == 182 || c == 183
                    || c == 187 || c == 191;
        }

        static boolean isForbidden(int c) {
            return c < 32 && c != 9 && c != 10 && c != 13 || c == 65534 || c == 65535;
        }

        static boolean isSchemeSign(int c) {
            return isLetterOrDigit(c) || c == '+' || c == '-' || c == '.';
        }

        static boolean isMailSign(int c) {
            return isLetterOrDigit(c) || c == '.' || c == '-' || c == '_' || c == '+';
        }

        static boolean isAddressSign(int c) {
            return c > 32 && c != '<' && c != '>' && c != 127;
        }

        static int small(int c) {
            return c >= 'A' && c <= 'Z' ? c + 32 : c;
        }

        /** What a digit of that base is worth, or NONE. */
        static int worth(int c, int base) {
            int value = NONE;
            if (c >= '0' && c <= '9') {
                value = c - '0';
            } else if (c >= 'A' && c <= 'Z') {
                value = c - 'A' + 10;
            } else if (c >= 'a' && c <= 'z') {
                value = c - 'a' + 10;
            }
            return value < base ? value : NONE;
        }
    }

    /** Finds where what begins at a place ends: the place just behind it, or NONE if it does not stand there. */
    private static final class Scan {
        private static final int SCHEME_MOST = 32;

        private final Row tape;

        Scan(Row tape) {
            this.tape = tape;
        }

        boolean isEscape(int p) {
            return tape.at(p) == '\\' && Signs.isAsciiPunctuation(tape.at(p + 1));
        }

        /** Behind the row of the sign that stands at p. */
        int sameEnd(int p) {
            int q = p;
            while (q < tape.size() && tape.at(q) == tape.at(p)) {
                q++;
            }
            return q;
        }

        int gapEnd(int p) {
            int q = spacesEnd(p);
            return tape.at(q) == 10 ? spacesEnd(q + 1) : q;
        }

        private int spacesEnd(int p) {
            int q = p;
            while (q < tape.size() && tape.at(q) == 32) {
                q++;
            }
            return q;
        }

        /** The [ or ] without a \ of its own that stops a label's text, or a place that is none. */
        int labelStop(int from) {
            int q = from;
            while (q < tape.size() && q <= from + LABEL_MOST) {
                int c = tape.at(q);
                if (c == '[' || c == ']') {
                    return q;
                }
                q += c == '\\' ? 2 : 1;
            }
            return q;
        }

        /** Whether all of from .. to would be the text of a label, if a ] stood at 'to'. */
        boolean isLabelText(int from, int to) {
            return to > from && to - from <= LABEL_MOST && labelStop(from) == to && !isAllWhite(from, to);
        }

        private boolean isAllWhite(int from, int to) {
            for (int q = from; q < to; q++) {
                if (!Signs.isWhite(tape.at(q))) {
                    return false;
                }
            }
            return true;
        }

        int angleTargetEnd(int p) {
            int q = p + 1;
            while (q < tape.size()) {
                int c = tape.at(q);
                if (c == '>') {
                    return q + 1;
                }
                if (c == '<' || c == 10) {
                    return NONE;
                }
                q += isEscape(q) ? 2 : 1;
            }
            return NONE;
        }

        int bareTargetEnd(int p) {
            int open = 0;
            int q = p;
            while (q < tape.size()) {
                int c = tape.at(q);
                if (c <= 32 || c == 127 || c == ')' && open == 0) {
                    break;
                }
                if (c == '(') {
                    open++;
                } else if (c == ')') {
                    open--;
                }
                q += isEscape(q) ? 2 : 1;
            }
            return q > p && open == 0 ? q : NONE;
        }

        int titleEnd(int p) {
            int first = tape.at(p);
            if (first != '"' && first != '\'' && first != '(') {
                return NONE;
            }
            int last = first == '(' ? ')' : first;
            int q = p + 1;
            while (q < tape.size()) {
                int c = tape.at(q);
                if (c == last) {
                    return q + 1;
                }
                if (c == '(' && first == '(') {
                    return NONE;
                }
                q += isEscape(q) ? 2 : 1;
            }
            return NONE;
        }

        int addressEnd(int p) {
            if (!Signs.isLetter(tape.at(p + 1))) {
                return NONE;
            }
            int q = p + 2;
            while (q <= p + SCHEME_MOST && Signs.isSchemeSign(tape.at(q))) {
                q++;
            }
            if (q == p + 2 || tape.at(q) != ':') {
                return NONE;
            }
            q++;
            while (q < tape.size() && Signs.isAddressSign(tape.at(q))) {
                q++;
            }
            return tape.at(q) == '>' ? q + 1 : NONE;
        }

        int mailEnd(int p) {
            int at = mailRowEnd(p + 1);
            if (at == p + 1 || tape.at(at) != '@') {
                return NONE;
            }
            int q = mailRowEnd(at + 1);
            boolean sound = Signs.isLetterOrDigit(tape.at(at + 1)) && Signs.isLetterOrDigit(tape.at(q - 1));
            return sound && tape.at(q) == '>' ? q + 1 : NONE;
        }

        private int mailRowEnd(int p) {
            int q = p;
            while (q < tape.size() && Signs.isMailSign(tape.at(q))) {
                q++;
            }
            return q;
        }

        boolean isRaw(int p) {
            int c = tape.at(p + 1);
            boolean begins = Signs.isLetter(c) || c == '!' || c == '?'
                    || c == '/' && Signs.isLetter(tape.at(p + 2));
            return begins && laterPlaceOf('>', p + 1) != NONE;
        }

        private int laterPlaceOf(int sign, int from) {
            for (int q = from; q < tape.size(); q++) {
                if (tape.at(q) == sign) {
                    return q;
                }
            }
            return NONE;
        }
    }

    /** Characters by name and number. */
    private static final class References {
        private static final String NAMES =
                "amp;lt;gt;quot;apos;nbsp;copy;reg;auml;ouml;uuml;szlig;eacute;euro;hellip;mdash;";
        private static final int[] NAMED =
                {38, 60, 62, 34, 39, 160, 169, 174, 228, 246, 252, 223, 233, 8364, 8230, 8212};
        private static final int NO_CHARACTER = 65533;
        private static final int HIGHEST = 1114111;

        private final Row tape;
        /** The character that the reference found latest tells. */
        private int told;

        References(Row tape) {
            this.tape = tape;
            told = NONE;
        }

        /** Behind the reference at p, whose character is then 'told'; or NONE. */
        int endAt(int p) {
            if (tape.at(p) != '&') {
                return NONE;
            }
            if (tape.at(p + 1) != '#') {
                return nameEnd(p + 1);
            }
            boolean hexadecimal = tape.at(p + 2) == 'x' || tape.at(p + 2) == 'X';
            return hexadecimal ? numberEnd(p + 3, 16, 6) : numberEnd(p + 2, 10, 7);
        }

        private int numberEnd(int from, int base, int most) {
            int number = 0;
            int q = from;
            while (q < from + most && Signs.worth(tape.at(q), base) != NONE) {
                number = number * base + Signs.worth(tape.at(q), base);
                q++;
            }
            if (q == from || tape.at(q) != ';') {
                return NONE;
            }
            boolean none = number == 0 || number > HIGHEST || number >= 55296 && number <= 57343;
            told = none ? NO_CHARACTER : number;
            return q + 1;
        }

        private int nameEnd(int from) {
            int name = 0;
            int q = from;
            boolean same = true;
            for (int i = 0; i < NAMES.length() && name < NAMED.length; i++) {
                same = same && tape.at(q) == NAMES.charAt(i);
                q++;
                if (NAMES.charAt(i) == ';') {
                    if (same) {
                        told = NAMED[name];
                        return q;
                    }
                    name++;
                    q = from;
                    same = true;
                }
            }
            return NONE;
        }

        void addUnescaped(int from, int to, Row letters) {
            int q = from;
            while (q < to) {
                int end = endAt(q);
                if (tape.at(q) == '\\' && q + 1 < to && Signs.isAsciiPunctuation(tape.at(q + 1))) {
                    letters.add(tape.at(q + 1));
                    q += 2;
                } else if (end > q) {
                    letters.add(Signs.isForbidden(told) ? NO_CHARACTER : told);
                    q = end;
                } else {
                    letters.add(tape.at(q));
                    q++;
                }
            }
        }
    }

    /** Labels in their normal form, one behind the other. */
    private static final class Definitions {
        private final Row tape;
        private final Scan scan;
        private final Row letters;
        private final Row ends;
        /** The label that was looked for latest. */
        private final Row wanted;

        Definitions(Row tape, Scan scan) {
            this.tape = tape;
            this.scan = scan;
            letters = new Row(DEFINITIONS_MOST * LABEL_MOST);
            ends = new Row(DEFINITIONS_MOST);
            wanted = new Row(LABEL_MOST);
        }

        int count() {
            return ends.size();
        }

        void clear() {
            letters.cut(0);
            ends.cut(0);
        }

        boolean canBeLabel() {
            return scan.isLabelText(0, tape.size());
        }

        int numberOf(int from, int to) {
            wantNormal(from, to);
            int begin = 0;
            for (int number = 0; number < ends.size(); number++) {
                if (isWanted(begin, ends.at(number))) {
                    return number;
                }
                begin = ends.at(number);
            }
            return NONE;
        }

        /** Makes the label that was looked for latest a definition: its number, or NONE if there is no room. */
        int add() {
            if (ends.size() >= DEFINITIONS_MOST) {
                return NONE;
            }
            for (int i = 0; i < wanted.size(); i++) {
                letters.add(wanted.at(i));
            }
            ends.add(letters.size());
            return ends.size() - 1;
        }

        private void wantNormal(int from, int to) {
            wanted.cut(0);
            boolean white = false;
            for (int q = from; q < to; q++) {
                int c = tape.at(q);
                if (Signs.isWhite(c)) {
                    white = true;
                } else {
                    if (white && wanted.size() > 0) {
                        wanted.add(32);
                    }
                    wanted.add(Signs.small(c));
                    white = false;
                }
            }
        }

        private boolean isWanted(int from, int to) {
            if (to - from != wanted.size()) {
                return false;
            }
            for (int i = 0; i < wanted.size(); i++) {
                if (letters.at(from + i) != wanted.at(i)) {
                    return false;
                }
            }
            return true;
        }
    }

    /**
     * What each place of the tape has become: a character of a text, the beginning or the end of a node, or nothing.
     * Whatever pairs is told at its own places, so their order alone gives the nodes.
     */
    private static final class Marks {
        private static final int BY_LABEL = 0;
        private static final int WRITTEN_OUT = 1;
        private static final int ADDRESS = 2;
        private static final int MAIL = 3;

        private final Row kinds;
        /** A text's character; where a link begins, the number of its lead. */
        private final Row values;
        private final Row leadManners;
        private final Row leadNumbers;
        private final Row targetFroms;
        private final Row targetTos;
        private final Row titleFroms;
        private final Row titleTos;

        Marks() {
            kinds = new Row(TAPE_MOST);
            values = new Row(TAPE_MOST);
            leadManners = new Row(TAPE_MOST);
            leadNumbers = new Row(TAPE_MOST);
            targetFroms = new Row(TAPE_MOST);
            targetTos = new Row(TAPE_MOST);
            titleFroms = new Row(TAPE_MOST);
            titleTos = new Row(TAPE_MOST);
        }

        void startOver(Row tape) {
            kinds.refill(tape.size(), TEXT);
            values.cut(0);
            for (int p = 0; p < tape.size(); p++) {
                values.add(tape.at(p));
            }
            leadManners.cut(0);
            leadNumbers.cut(0);
            targetFroms.cut(0);
            targetTos.cut(0);
            titleFroms.cut(0);
            titleTos.cut(0);
        }

        void erase(int from, int to) {
            for (int p = from; p < to; p++) {
                kinds.put(p, GONE);
            }
        }

        /** A link or an image from one place to another leads where the latest lead says. */
        void hold(int kind, int from, int to) {
            kinds.put(from, kind);
            values.put(from, leadManners.size() - 1);
            kinds.put(to, CLOSING);
        }

        void addLead(int manner, int number, int targetFrom, int targetTo, int titleFrom, int titleTo) {
            leadManners.add(manner);
            leadNumbers.add(number);
            targetFroms.add(targetFrom);
            targetTos.add(targetTo);
            titleFroms.add(titleFrom);
            titleTos.add(titleTo);
        }
    }

    /** The rows of * and _ that may still pair, and their pairing. */
    private static final class Runs {
        private final Row tape;
        private final Marks marks;
        private final Row signs;
        private final Row lengths;
        /** The signs that are left stand from here .. */
        private final Row firsts;
        /** .. to just ahead of here. */
        private final Row ends;
        private final Row openers;
        private final Row closers;

        Runs(Row tape, Marks marks) {
            this.tape = tape;
            this.marks = marks;
            signs = new Row(TAPE_MOST);
            lengths = new Row(TAPE_MOST);
            firsts = new Row(TAPE_MOST);
            ends = new Row(TAPE_MOST);
            openers = new Row(TAPE_MOST);
            closers = new Row(TAPE_MOST);
        }

        int count() {
            return signs.size();
        }

        void forgetFrom(int base) {
            signs.cut(base);
            lengths.cut(base);
            firsts.cut(base);
            ends.cut(base);
            openers.cut(base);
            closers.cut(base);
        }

        void meet(int from, int to) {
            int ahead = from > 0 ? tape.at(from - 1) : 10;
            int behind = to < tape.size() ? tape.at(to) : 10;
            boolean left = leans(behind, ahead);
            boolean right = leans(ahead, behind);
            boolean star = tape.at(from) == '*';
            boolean opens = left && (star || !right || Signs.isPunctuation(ahead));
            boolean closes = right && (star || !left || Signs.isPunctuation(behind));
            signs.add(tape.at(from));
            lengths.add(to - from);
            firsts.add(from);
            ends.add(to);
            openers.add(opens ? 1 : 0);
            closers.add(closes ? 1 : 0);
        }

        /** Whether a row leans to the side of the character 'near', with 'far' at its other side. */
        private boolean leans(int near, int far) {
            return !Signs.isBlank(near)
                    && (!Signs.isPunctuation(near) || Signs.isBlank(far) || Signs.isPunctuation(far));
        }

        void pairFrom(int base) {
            for (int closer = base; closer < signs.size(); closer++) {
                int opener = openerFor(closer, base);
                for (int turns = left(closer); turns > 0 && opener != NONE; turns--) {
                    join(opener, closer);
                    opener = openerFor(closer, base);
                }
            }
            forgetFrom(base);
        }

        private int left(int run) {
            return ends.at(run) - firsts.at(run);
        }

        private int openerFor(int closer, int base) {
            if (closers.at(closer) != 1 || left(closer) == 0) {
                return NONE;
            }
            for (int opener = closer - 1; opener >= base; opener--) {
                if (openers.at(opener) == 1 && signs.at(opener) == signs.at(closer)
                        && left(opener) > 0 && !clash(opener, closer)) {
                    return opener;
                }
            }
            return NONE;
        }

        private boolean clash(int opener, int closer) {
            boolean doubtful = closers.at(opener) == 1 || openers.at(closer) == 1;
            boolean together = (lengths.at(opener) + lengths.at(closer)) % 3 == 0;
            boolean both = lengths.at(opener) % 3 == 0 && lengths.at(closer) % 3 == 0;
            return doubtful && together && !both;
        }

        private void join(int opener, int closer) {
            int taken = left(opener) > 1 && left(closer) > 1 ? 2 : 1;
            int from = ends.at(opener) - taken;
            int to = firsts.at(closer);
            marks.erase(from, from + taken);
            marks.erase(to, to + taken);
            marks.kinds.put(from, taken == 2 ? STRONG : EMPHASIS);
            marks.kinds.put(to, CLOSING);
            ends.put(opener, from);
            firsts.put(closer, to + taken);
            for (int passed = opener + 1; passed < closer; passed++) {
                openers.put(passed, 0);
            }
        }
    }

    /** The brackets that are there, the latest one last, and what becomes of them at a ]. */
    private static final class Links {
        private final Row tape;
        private final Scan scan;
        private final Marks marks;
        private final Runs runs;
        private final Definitions definitions;
        private final Row places;
        private final Row images;
        private final Row deads;
        private final Row runsAhead;
        /** How many brackets had been met with this one. */
        private final Row ordinals;
        private int met;

        Links(Row tape, Scan scan, Marks marks, Runs runs, Definitions definitions) {
            this.tape = tape;
            this.scan = scan;
            this.marks = marks;
            this.runs = runs;
            this.definitions = definitions;
            places = new Row(TAPE_MOST);
            images = new Row(TAPE_MOST);
            deads = new Row(TAPE_MOST);
            runsAhead = new Row(TAPE_MOST);
            ordinals = new Row(TAPE_MOST);
            met = 0;
        }

        void startOver() {
            forgetFrom(0);
            met = 0;
        }

        private void forgetFrom(int bracket) {
            places.cut(bracket);
            images.cut(bracket);
            deads.cut(bracket);
            runsAhead.cut(bracket);
            ordinals.cut(bracket);
        }

        void meet(int p, boolean image) {
            met++;
            places.add(p);
            images.add(image ? 1 : 0);
            deads.add(0);
            runsAhead.add(runs.count());
            ordinals.add(met);
        }

        void killLinkBrackets() {
            for (int bracket = 0; bracket < places.size(); bracket++) {
                if (images.at(bracket) == 0) {
                    deads.put(bracket, 1);
                }
            }
        }

        /** Takes the ] at p: the place to go on from. */
        int close(int p) {
            int bracket = places.size() - 1;
            if (bracket < 0) {
                return p + 1;
            }
            int end = NONE;
            if (deads.at(bracket) == 0) {
                end = writtenOutEnd(p + 1);
                end = end != NONE ? end : labelledEnd(bracket, p);
            }
            if (end == NONE) {
                forgetFrom(bracket);
                return p + 1;
            }
            boolean image = images.at(bracket) == 1;
            marks.erase(places.at(bracket), textFrom(bracket));
            marks.hold(image ? IMAGE : LINK, places.at(bracket), p);
            marks.erase(p + 1, end);
            runs.pairFrom(runsAhead.at(bracket));
            forgetFrom(bracket);
            if (!image) {
                killLinkBrackets();
            }
            return end;
        }

        private int textFrom(int bracket) {
            return places.at(bracket) + 1 + images.at(bracket);
        }

        /** Behind the ] at p and what it takes with it as a link by a label, whose lead is then added; or NONE. */
        private int labelledEnd(int bracket, int p) {
            int from = p + 2;
            int to = scan.labelStop(from);
            int end = to + 1;
            if (tape.at(p + 1) != '[' || tape.at(to) != ']' || !scan.isLabelText(from, to)) {
                from = textFrom(bracket);
                to = p;
                end = tape.at(p + 1) == '[' && tape.at(p + 2) == ']' ? p + 3 : p + 1;
                if (ordinals.at(bracket) != met || !scan.isLabelText(from, to)) {
                    return NONE;
                }
            }
            int number = definitions.numberOf(from, to);
            if (number == NONE) {
                return NONE;
            }
            marks.addLead(Marks.BY_LABEL, number, 0, 0, 0, 0);
            return end;
        }

        /** Behind the target and title in their ( .. ) at p, whose lead is then added; or NONE. */
        private int writtenOutEnd(int p) {
            if (tape.at(p) != '(') {
                return NONE;
            }
            int target = scan.gapEnd(p + 1);
            boolean angle = tape.at(target) == '<';
            int found = angle ? scan.angleTargetEnd(target) : scan.bareTargetEnd(target);
            int targetEnd = found != NONE ? found : target;
            int title = scan.gapEnd(targetEnd);
            int titleEnd = title > targetEnd ? scan.titleEnd(title) : NONE;
            int last = scan.gapEnd(titleEnd != NONE ? titleEnd : targetEnd);
            if (tape.at(last) != ')') {
                return NONE;
            }
            int around = angle && found != NONE ? 1 : 0;
            int titleTo = titleEnd != NONE ? titleEnd - 1 : title + 1;
            marks.addLead(Marks.WRITTEN_OUT, NONE, target + around, targetEnd - around, title + 1, titleTo);
            return last + 1;
        }
    }

    /** Goes over the tape from the left and marks what stands there, up to a fault. */
    private static final class Reader {
        private final Row tape;
        private final Scan scan;
        private final References references;
        private final Marks marks;
        private final Runs runs;
        private final Links links;
        private int faultKind;
        private int faultPlace;

        Reader(Row tape, Scan scan, References references, Marks marks, Definitions definitions) {
            this.tape = tape;
            this.scan = scan;
            this.references = references;
            this.marks = marks;
            runs = new Runs(tape, marks);
            links = new Links(tape, scan, marks, runs, definitions);
            faultKind = 0;
            faultPlace = NONE;
        }

        void markAll() {
            startOver();
            int p = 0;
            while (p < tape.size() && faultKind == 0) {
                int next = p + 1;
                switch (tape.at(p)) {
                    case 10:
                        markLineEnd(p);
                        break;
                    case '\\':
                        next = markBackslash(p);
                        break;
                    case '`':
                        next = markCoding(p);
                        break;
                    case '<':
                        next = markAngle(p);
                        break;
                    case '&':
                        next = markReference(p);
                        break;
                    case '*':
                    case '_':
                        next = scan.sameEnd(p);
                        runs.meet(p, next);
                        break;
                    case '!':
                    case '[':
                        next = markBracket(p);
                        break;
                    case ']':
                        next = links.close(p);
                        break;
                    default:
                        break;
                }
                p = Math.max(p + 1, next);
            }
            // With a fault the marks are not used, so what is paired then does not matter.
            runs.pairFrom(0);
        }

        private void startOver() {
            marks.startOver(tape);
            runs.forgetFrom(0);
            links.startOver();
            faultKind = 0;
            faultPlace = NONE;
        }

        private void markLineEnd(int p) {
            int spaces = p;
            while (spaces > 0 && tape.at(spaces - 1) == 32) {
                spaces--;
            }
            marks.erase(spaces, p);
            marks.kinds.put(p, p - spaces >= 2 ? HARD : SOFT);
        }

        /** Like all below: marks what stands at p, and answers the place to go on from. */
        private int markBackslash(int p) {
            if (tape.at(p + 1) == 10) {
                marks.erase(p, p + 1);
                marks.kinds.put(p + 1, HARD);
                return p + 2;
            }
            if (scan.isEscape(p)) {
                marks.erase(p, p + 1);
                return p + 2;
            }
            return p + 1;
        }

        private int markCoding(int p) {
            int from = scan.sameEnd(p);
            int to = laterRow(from, from - p);
            if (to == NONE) {
                return from;
            }
            boolean blank = true;
            for (int q = from; q < to; q++) {
                if (tape.at(q) == 10) {
                    marks.values.put(q, 32);
                }
                blank = blank && marks.values.at(q) == 32;
            }
            int end = to + from - p;
            marks.erase(p, from);
            marks.erase(to, end);
            marks.kinds.put(p, CODING);
            marks.kinds.put(to, CODING_END);
            if (!blank && marks.values.at(from) == 32 && marks.values.at(to - 1) == 32) {
                marks.erase(from, from + 1);
                marks.erase(to - 1, to);
            }
            return end;
        }

        /** Where, from a place on, a row of just as many ` begins. */
        private int laterRow(int from, int length) {
            int q = from;
            while (q < tape.size()) {
                int end = scan.sameEnd(q);
                if (tape.at(q) == '`' && end - q == length) {
                    return q;
                }
                q = Math.max(q + 1, end);
            }
            return NONE;
        }

        private int markAngle(int p) {
            int address = scan.addressEnd(p);
            int end = address != NONE ? address : scan.mailEnd(p);
            if (end != NONE) {
                marks.addLead(address != NONE ? Marks.ADDRESS : Marks.MAIL, NONE, p + 1, end - 1, 0, 0);
                marks.hold(LINK, p, end - 1);
                links.killLinkBrackets();
                return end;
            }
            if (scan.isRaw(p)) {
                stopWith(FAULT_RAW, p);
            }
            return p + 1;
        }

        private int markReference(int p) {
            int end = references.endAt(p);
            if (end == NONE) {
                return p + 1;
            }
            if (Signs.isForbidden(references.told)) {
                stopWith(FAULT_FORBIDDEN, p);
            }
            marks.values.put(p, references.told);
            marks.erase(p + 1, end);
            return end;
        }

        private int markBracket(int p) {
            boolean image = tape.at(p) == '!';
            if (image && tape.at(p + 1) != '[') {
                return p + 1;
            }
            links.meet(p, image);
            return image ? p + 2 : p + 1;
        }

        private void stopWith(int kind, int place) {
            faultKind = kind;
            faultPlace = place;
        }
    }

    /** The nodes that were read, what holds ahead of what it holds. */
    private static final class Nodes {
        private static final String MAILTO = "mailto:";

        private final Row tape;
        private final References references;
        private final Marks marks;
        private final Row kinds;
        private final Row holders;
        private final Row depths;
        private final Row froms;
        private final Row sizes;
        private final Row titleFroms;
        private final Row titleSizes;
        private final Row numbers;
        private final Row letters;
        private boolean isRead;

        Nodes(Row tape, References references, Marks marks) {
            this.tape = tape;
            this.references = references;
            this.marks = marks;
            kinds = new Row(TAPE_MOST);
            holders = new Row(TAPE_MOST);
            depths = new Row(TAPE_MOST);
            froms = new Row(TAPE_MOST);
            sizes = new Row(TAPE_MOST);
            titleFroms = new Row(TAPE_MOST);
            titleSizes = new Row(TAPE_MOST);
            numbers = new Row(TAPE_MOST);
            letters = new Row(LETTERS_MOST);
            isRead = false;
        }

        void forget() {
            isRead = false;
            kinds.cut(0);
            holders.cut(0);
            depths.cut(0);
            froms.cut(0);
            sizes.cut(0);
            titleFroms.cut(0);
            titleSizes.cut(0);
            numbers.cut(0);
            letters.cut(0);
        }

        int count() {
            return isRead ? kinds.size() : NONE;
        }

        boolean has(int k) {
            return k >= 0 && k < count();
        }

        /** Makes the nodes that the marks tell; false if one would be too deep. */
        boolean build() {
            forget();
            isRead = true;
            int holder = NONE;
            int text = NONE;
            for (int p = 0; p < marks.kinds.size(); p++) {
                int kind = marks.kinds.at(p);
                if (kind == CLOSING) {
                    holder = holders.at(holder);
                    text = NONE;
                } else if (kind == CODING_END) {
                    text = NONE;
                } else if (kind == TEXT && text != NONE) {
                    addLetter(text, marks.values.at(p));
                } else if (kind != GONE) {
                    if (depthIn(holder) > DEPTH_MOST) {
                        return false;
                    }
                    int made = begin(kind, holder, marks.values.at(p));
                    text = kind == TEXT || kind == CODING ? made : NONE;
                    holder = kind >= EMPHASIS ? made : holder;
                }
            }
            return true;
        }

        private int depthIn(int holder) {
            return holder == NONE ? 1 : depths.at(holder) + 1;
        }

        private int begin(int kind, int holder, int value) {
            int made = kinds.size();
            depths.add(depthIn(holder));
            kinds.add(kind);
            holders.add(holder);
            froms.add(letters.size());
            sizes.add(0);
            titleFroms.add(letters.size());
            titleSizes.add(0);
            numbers.add(NONE);
            if (kind == TEXT) {
                addLetter(made, value);
            } else if (kind == LINK || kind == IMAGE) {
                addLead(made, value);
            }
            return made;
        }

        private void addLetter(int k, int letter) {
            letters.add(letter);
            sizes.put(k, letters.size() - froms.at(k));
        }

        private void addLead(int k, int lead) {
            int manner = marks.leadManners.at(lead);
            numbers.put(k, marks.leadNumbers.at(lead));
            if (manner == Marks.WRITTEN_OUT) {
                references.addUnescaped(marks.targetFroms.at(lead), marks.targetTos.at(lead), letters);
            } else {
                addAddress(lead, manner == Marks.MAIL);
            }
            sizes.put(k, letters.size() - froms.at(k));
            titleFroms.put(k, letters.size());
            references.addUnescaped(marks.titleFroms.at(lead), marks.titleTos.at(lead), letters);
            titleSizes.put(k, letters.size() - titleFroms.at(k));
        }

        private void addAddress(int lead, boolean mail) {
            for (int i = 0; mail && i < MAILTO.length(); i++) {
                letters.add(MAILTO.charAt(i));
            }
            for (int p = marks.targetFroms.at(lead); p < marks.targetTos.at(lead); p++) {
                letters.add(tape.at(p));
            }
        }

        int tell(int k, int what) {
            switch (what) {
                case 0:
                    return kinds.at(k);
                case 1:
                    return holders.at(k);
                case 2:
                    return sizes.at(k);
                case 3:
                    return titleSizes.at(k);
                case 4:
                    return numbers.at(k);
                case 5:
                    return depths.at(k);
                default:
                    return NONE;
            }
        }

        int letterOf(int k, boolean title, int i) {
            int size = title ? titleSizes.at(k) : sizes.at(k);
            if (i < 0 || i >= size) {
                return NONE;
            }
            return letters.at((title ? titleFroms.at(k) : froms.at(k)) + i);
        }

        /** The node just behind k and all that it holds, or how many there are. */
        int behind(int k) {
            int next = k + 1;
            while (next < kinds.size() && depths.at(next) > depths.at(k)) {
                next++;
            }
            return next;
        }
    }

    /** Makes the output of nodes. */
    private static final class Writer {
        private final Nodes nodes;
        private final Row out;

        Writer(Nodes nodes) {
            this.nodes = nodes;
            out = new Row(OUTPUT_MOST);
        }

        void makePlain(int k) {
            out.cut(0);
            addPlain(k, false);
        }

        void makeWritten() {
            out.cut(0);
            int holder = NONE;
            int k = 0;
            while (k < nodes.count()) {
                holder = closeDownTo(nodes.holders.at(k), holder);
                begin(k);
                int kind = nodes.kinds.at(k);
                holder = kind == EMPHASIS || kind == STRONG || kind == LINK ? k : holder;
                k = Math.max(k + 1, kind == IMAGE ? nodes.behind(k) : 0);
            }
            closeDownTo(NONE, holder);
        }

        /** Ends the nodes from 'holder' up that 'last' does not stand in: 'last'. */
        private int closeDownTo(int last, int holder) {
            int open = holder;
            for (int i = 0; i < DEPTH_MOST && open != last; i++) {
                int kind = nodes.kinds.at(open);
                if (kind == EMPHASIS) {
                    say("</em>");
                } else if (kind == STRONG) {
                    say("</strong>");
                } else if (kind == LINK) {
                    say("</a>");
                }
                open = nodes.holders.at(open);
            }
            return last;
        }

        private void begin(int k) {
            switch (nodes.kinds.at(k)) {
                case TEXT:
                    addLetters(k, false, true);
                    break;
                case SOFT:
                    say("\n");
                    break;
                case HARD:
                    say("<br/>\n");
                    break;
                case CODING:
                    say("<code>");
                    addLetters(k, false, true);
                    say("</code>");
                    break;
                case EMPHASIS:
                    say("<em>");
                    break;
                case STRONG:
                    say("<strong>");
                    break;
                case LINK:
                    say("<a href=\"");
                    addTarget(k);
                    addTitle(k);
                    say("\">");
                    break;
                case IMAGE:
                    say("<img src=\"");
                    addTarget(k);
                    say("\" alt=\"");
                    addPlain(k, true);
                    addTitle(k);
                    say("\"/>");
                    break;
                default:
                    break;
            }
        }

        private void addTarget(int k) {
            int number = nodes.numbers.at(k);
            if (number == NONE) {
                addLetters(k, false, true);
                return;
            }
            out.add('#');
            if (number > 9) {
                out.add('0' + number / 10);
            }
            out.add('0' + number % 10);
        }

        private void addTitle(int k) {
            if (nodes.titleSizes.at(k) > 0) {
                say("\" title=\"");
                addLetters(k, true, true);
            }
        }

        private void addPlain(int k, boolean escaped) {
            int end = nodes.behind(k);
            for (int inner = k; inner < end; inner++) {
                int kind = nodes.kinds.at(inner);
                if (kind == TEXT || kind == CODING) {
                    addLetters(inner, false, escaped);
                } else if (kind == SOFT || kind == HARD) {
                    out.add(32);
                }
            }
        }

        private void addLetters(int k, boolean title, boolean escaped) {
            int size = title ? nodes.titleSizes.at(k) : nodes.sizes.at(k);
            for (int i = 0; i < size; i++) {
                int c = nodes.letterOf(k, title, i);
                String instead = escaped ? insteadOf(c) : "";
                if (instead.isEmpty()) {
                    out.add(c);
                } else {
                    say(instead);
                }
            }
        }

        private String insteadOf(int c) {
            switch (c) {
                case '&':
                    return "&amp;";
                case '<':
                    return "&lt;";
                case '>':
                    return "&gt;";
                case '"':
                    return "&quot;";
                default:
                    return "";
            }
        }

        private void say(String words) {
            for (int i = 0; i < words.length(); i++) {
                out.add(words.charAt(i));
            }
        }
    }
}
