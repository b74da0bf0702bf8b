import java.util.Arrays;

/** A house that reads and shows pages: see README.md; the document's words stand in capitals here too. */
public final class BrowserHouse {
    public static final int NONE = -1;

    private static final int WRONG = -1000;
    private static final int NO_PLACE = -1000;
    private static final int TAPE_LIMIT = 2000;
    private static final int OUT_LIMIT = 8000;

    private static final int NODES = 120;
    private static final int DEEPEST = 20;
    private static final int ATTRIBUTES = 4;
    private static final int TEXT_LIMIT = 400;
    private static final int VALUE_LIMIT = 60;
    private static final int INPUT_LIMIT = 24;
    private static final int ROOT = 0;

    private static final int DIV = 0;
    private static final int P = 1;
    private static final int H1 = 2;
    private static final int UL = 3;
    private static final int LI = 4;
    private static final int FORM = 5;
    private static final int A = 7;
    private static final int BR = 10;
    private static final int HR = 11;
    private static final int IMG = 12;
    private static final int INPUT = 13;
    private static final int BUTTON = 14;
    private static final int STYLE = 15;
    private static final int OTHER = 16;
    private static final int TEXT = 17;
    private static final String TAGS = "div p h1 ul li form span a b i br hr img input button style";

    private static final int DISPLAY = 0;
    private static final int COLOR = 1;
    private static final int BACKGROUND = 2;
    private static final int MARGIN = 3;
    private static final int PADDING = 4;
    private static final int BORDER = 5;
    private static final int WIDTH = 6;
    private static final int HEIGHT = 7;
    private static final int SIZE = 8;
    private static final int ALIGN = 9;
    private static final int FLOAT = 10;
    private static final int PROPERTIES = 11;
    private static final int PERCENT = 1000;

    private static final int DISPLAY_BLOCK = 0;
    private static final int DISPLAY_INLINE = 1;
    private static final int DISPLAY_NONE = 2;
    private static final int DISPLAY_FLEX = 3;

    private final Bytes tape = new Bytes(TAPE_LIMIT);
    private final Bytes shown = new Bytes(OUT_LIMIT);
    private final Tree tree = new Tree();
    private final Net net = new Net();
    private final Reader reader = new Reader(tree);
    private final Sheet sheet = new Sheet(tree);
    private final Layout layout = new Layout(tree, sheet);
    private final Acts acts = new Acts(tree, net, reader);
    private final int[] matched = new int[NODES];
    private int matches;

    public BrowserHouse() {
        tree.clear();
    }

    // ---- texts

    public int feed(int a, int b, int c, int d, int e) {
        if (tape.size + 20 > TAPE_LIMIT) {
            return NONE;
        }
        addFour(a);
        addFour(b);
        addFour(c);
        addFour(d);
        addFour(e);
        return tape.size;
    }

    private void addFour(int bytes) {
        for (int shift = 24; shift >= 0; shift -= 8) {
            tape.add(bytes >> shift);
        }
    }

    public int end(int n) {
        if (n < 0 || n > tape.size) {
            return NONE;
        }
        tape.size = n;
        return n;
    }

    public int out(int i) {
        return i >= 0 && i < shown.size ? shown.data[i] : NONE;
    }

    /** 0 if all bytes may stand in a text, else the WRONG answer. */
    private int wrongByte() {
        for (int i = 0; i < tape.size; i++) {
            int c = tape.data[i];
            if (c != 10 && (c < 32 || c > 126)) {
                return WRONG - i;
            }
        }
        return 0;
    }

    private int showAddress(Address address) {
        shown.clear();
        shown.addAll(address.text, 0, address.size);
        return shown.size;
    }

    private int showBytes(Bytes bytes) {
        shown.clear();
        shown.addAll(bytes.data, 0, bytes.size);
        return shown.size;
    }

    // ---- addresses, servers, visits

    public int resolve() {
        int answer = wrongByte();
        if (answer == 0) {
            boolean read = net.target.read(tape.data, 0, tape.size, net.here);
            answer = read ? showAddress(net.target) : NONE;
        }
        tape.clear();
        return answer;
    }

    public int server() {
        int answer = wrongByte();
        if (answer == 0) {
            answer = net.takeServer(tape.data, tape.size);
        }
        tape.clear();
        return answer;
    }

    public int visit() {
        int answer = wrongByte();
        if (answer == 0) {
            acts.begin();
            answer = net.aim(tape.data, 0, tape.size) ? 1 : NONE;
            acts.settle();
        }
        tape.clear();
        return answer;
    }

    public int page() {
        int answer = wrongByte();
        if (answer == 0) {
            acts.begin();
            reader.read(tape.data, tape.size);
            acts.startPage();
            acts.settle();
            answer = tree.size;
        }
        tape.clear();
        return answer;
    }

    public int history(int by) {
        acts.begin();
        if (!net.move(by)) {
            return NONE;
        }
        acts.settle();
        return net.historyAt;
    }

    public int write(int what) {
        switch (what) {
            case 0:
                return showAddress(net.here);
            case 1:
                return showAddress(net.asked);
            case 2:
                return showBytes(net.askedCookies);
            default:
                return NONE;
        }
    }

    public int tick(int n) {
        if (n < 0 || n > 1000) {
            return NONE;
        }
        net.clock += n;
        acts.begin();
        int done = 0;
        for (int guard = 0; guard < 100000 && acts.takeDueTask(); guard++) {
            done++;
            acts.settle();
        }
        return done;
    }

    // ---- the tree

    private boolean isNode(int n) {
        return n >= 0 && n < NODES && tree.nodes[n].tag != NONE;
    }

    private boolean isElement(int n) {
        return isNode(n) && tree.nodes[n].tag != TEXT;
    }

    private boolean isInput(int n) {
        return isNode(n) && tree.nodes[n].tag == INPUT;
    }

    public int node(int n, int what) {
        if (!isNode(n)) {
            return NONE;
        }
        Node of = tree.nodes[n];
        switch (what) {
            case 0:
                return of.tag;
            case 1:
                return of.parent;
            case 2:
                return of.kids;
            case 3:
                return tree.rankOf(n);
            case 4:
                return of.attributes;
            case 5:
                return of.tag == TEXT ? of.bytes.size : 0;
            default:
                return NONE;
        }
    }

    public int kid(int n, int i) {
        return isNode(n) && i >= 0 ? tree.kidAt(n, i) : NONE;
    }

    public int name(int n) {
        if (!isNode(n)) {
            return NONE;
        }
        Node of = tree.nodes[n];
        if (of.tag == TEXT) {
            return showBytes(of.bytes);
        }
        shown.clear();
        shown.addPacked(of.called);
        return shown.size;
    }

    public int attribute(int n) {
        int answer = wrongByte();
        if (answer == 0) {
            int stop = Bytes.nameEnd(tape.data, 0, tape.size);
            if (stop == 0 || stop < tape.size) {
                answer = WRONG - stop;
            } else {
                answer = showAttribute(n, Bytes.pack(tape.data, 0, stop));
            }
        }
        tape.clear();
        return answer;
    }

    private int showAttribute(int n, long called) {
        if (!isElement(n)) {
            return NONE;
        }
        Bytes held = tree.nodes[n].find(called);
        return held == null ? NONE : showBytes(held);
    }

    public int serialise(int n) {
        if (!isNode(n)) {
            return NONE;
        }
        shown.clear();
        tree.print(n, shown);
        return shown.size;
    }

    public int fault(int i, int what) {
        if (i < 0 || i >= Math.min(reader.faults, Reader.FAULTS_TOLD)) {
            return NONE;
        }
        if (what == 0) {
            return reader.faultKind[i];
        }
        return what == 1 ? reader.faultPlace[i] : NONE;
    }

    public int select() {
        int answer = wrongByte();
        if (answer == 0) {
            int stop = sheet.readSelector(tape.data, 0, tape.size, Sheet.ASKED);
            answer = stop >= 0 ? WRONG - stop : listMatches();
        }
        tape.clear();
        return answer;
    }

    private int listMatches() {
        matches = 0;
        tree.list();
        for (int k = 0; k < tree.listed; k++) {
            int n = tree.order[k];
            if (tree.nodes[n].tag != TEXT && sheet.isMatch(Sheet.ASKED, n)) {
                matched[matches] = n;
                matches++;
            }
        }
        return matches;
    }

    public int found(int i) {
        return i >= 0 && i < matches ? matched[i] : NONE;
    }

    public int style(int n, int property) {
        if (!isNode(n) || property < 0 || property >= PROPERTIES) {
            return NONE;
        }
        sheet.refresh();
        int of = tree.nodes[n].tag == TEXT ? tree.nodes[n].parent : n;
        return of < 0 ? NONE : sheet.look[of * PROPERTIES + property];
    }

    // ---- layout, picture

    public int screen(int width) {
        if (width < 20 || width > 96) {
            return NONE;
        }
        layout.resize(width);
        return 1;
    }

    public int box(int n, int what) {
        if (!isElement(n)) {
            return NO_PLACE;
        }
        sheet.refresh();
        layout.refresh();
        Box of = layout.boxes[n];
        if (!of.isPainted()) {
            return NO_PLACE;
        }
        switch (what) {
            case 0:
                return of.x;
            case 1:
                return of.y;
            case 2:
                return of.width;
            case 3:
                return of.height;
            default:
                return NO_PLACE;
        }
    }

    public int word(int i, int what) {
        sheet.refresh();
        layout.refresh();
        if (i < 0 || i >= layout.wordCount || what < 0 || what > 6) {
            return NO_PLACE;
        }
        if (what == 6) {
            return layout.wordHeight(i);
        }
        return layout.words[i * Layout.WORD + what];
    }

    public int point(int x, int y) {
        sheet.refresh();
        layout.refresh();
        return layout.isInPicture(x, y) ? layout.colorAt(x, y) : NONE;
    }

    public int top(int x, int y) {
        sheet.refresh();
        layout.refresh();
        return layout.nodeAt(x, y);
    }

    // ---- acts

    public int press(int x, int y) {
        sheet.refresh();
        layout.refresh();
        int n = layout.nodeAt(x, y);
        if (n != NONE) {
            acts.begin();
            acts.startEvent(n, Acts.PRESS);
            acts.settle();
        }
        return n;
    }

    public int key(int c) {
        int n = tree.alive(acts.focus);
        if (n == NONE || c != 8 && c != 10 && (c < 32 || c > 126)) {
            return NONE;
        }
        acts.begin();
        acts.startEvent(n, c);
        acts.settle();
        return n;
    }

    public int script() {
        int answer = wrongByte();
        if (answer == 0) {
            int before = acts.stepsRun;
            acts.begin();
            acts.startScript(tape, tree.markOf(ROOT));
            acts.settle();
            answer = acts.stepsRun - before;
        }
        tape.clear();
        return answer;
    }

    public int value(int n) {
        return isInput(n) ? showBytes(tree.nodes[n].bytes) : NONE;
    }

    public int checked(int n) {
        if (!isInput(n)) {
            return NONE;
        }
        return tree.nodes[n].ticked ? 1 : 0;
    }

    public int count(int what) {
        switch (what) {
            case 0:
                return tree.size;
            case 1:
                return reader.faults;
            case 9:
                return acts.taskCount;
            case 10:
                return acts.refusals;
            case 11:
                return acts.wrongSteps;
            case 12:
                return acts.stepsRun;
            case 13:
                return tree.alive(acts.focus);
            case 14:
                sheet.refresh();
                layout.refresh();
                return layout.pictureHeight();
            case 16:
                sheet.refresh();
                return sheet.selectors;
            default:
                return countOfNet(what);
        }
    }

    private int countOfNet(int what) {
        switch (what) {
            case 2:
                return net.answerCount;
            case 3:
                return net.cookieCount;
            case 4:
                return net.keptCount;
            case 5:
                return net.requests;
            case 6:
                return net.clock;
            case 7:
                return net.historySize;
            case 8:
                return net.historyAt;
            case 15:
                return net.storeCount;
            default:
                return NONE;
        }
    }

    /** A row of bytes that grows up to its limit; what is beyond is left out. */
    private static final class Bytes {
        private final int limit;
        private byte[] data;
        private int size;

        Bytes(int limit) {
            this.limit = limit;
            data = new byte[16];
        }

        void clear() {
            size = 0;
        }

        void add(int c) {
            if (size >= limit) {
                return;
            }
            if (size == data.length) {
                data = Arrays.copyOf(data, 2 * size + 16);
            }
            data[size] = (byte) c;
            size++;
        }

        void addAll(byte[] from, int begin, int stop) {
            int length = Math.min(stop - begin, limit - size);
            if (length <= 0) {
                return;
            }
            if (size + length > data.length) {
                data = Arrays.copyOf(data, Math.max(2 * data.length, size + length));
            }
            System.arraycopy(from, begin, data, size, length);
            size += length;
        }

        void addText(String text) {
            for (int i = 0; i < text.length(); i++) {
                add(text.charAt(i));
            }
        }

        void addPacked(long name) {
            for (int shift = 56; shift >= 0; shift -= 8) {
                int c = (int) (name >> shift) & 255;
                if (c != 0) {
                    add(c);
                }
            }
        }

        void dropLast() {
            if (size > 0) {
                size--;
            }
        }

        /** As a packed NAME; 0 if it is too long, or nothing. */
        long packed() {
            long all = 0;
            for (int i = 0; i < size && size <= 8; i++) {
                all = all << 8 | data[i];
            }
            return all;
        }

        boolean is(String text) {
            return size == text.length() && stands(text, data, 0, size);
        }

        boolean isNameWhole() {
            return isName(data, 0, size);
        }

        static boolean isBlank(int c) {
            return c == 10 || c == 32;
        }

        static boolean isSmall(int c) {
            return c >= 'a' && c <= 'z';
        }

        static boolean isDigit(int c) {
            return c >= '0' && c <= '9';
        }

        static boolean isLetter(int c) {
            return c >= 'a' && c <= 'z' || c >= 'A' && c <= 'Z';
        }

        /** The first place with which what begins at from can't go on to be a NAME. */
        static int nameEnd(byte[] d, int from, int to) {
            int i = from;
            while (i < to && i < from + 8) {
                boolean isSmall = d[i] >= 'a' && d[i] <= 'z';
                boolean isDigit = d[i] >= '0' && d[i] <= '9';
                if (!isSmall && (!isDigit || i == from)) {
                    return i;
                }
                i++;
            }
            return i;
        }

        static boolean isName(byte[] d, int from, int to) {
            return from < to && nameEnd(d, from, to) == to;
        }

        /** Up to eight bytes in one long: none of them is 0, so two rows are alike if their longs are. */
        static long pack(byte[] d, int from, int to) {
            long all = 0;
            for (int i = from; i < to && i < from + 8; i++) {
                all = all << 8 | d[i];
            }
            return all;
        }

        static long packSmall(byte[] d, int from, int to) {
            long all = 0;
            for (int i = from; i < to && i < from + 8; i++) {
                boolean isCapital = d[i] >= 'A' && d[i] <= 'Z';
                all = all << 8 | (isCapital ? d[i] + 32 : d[i]);
            }
            return all;
        }

        static long pack(String text) {
            long all = 0;
            for (int i = 0; i < text.length() && i < 8; i++) {
                all = all << 8 | text.charAt(i);
            }
            return all;
        }

        /** A NUMBER, or NONE. */
        static int number(byte[] d, int from, int to) {
            if (to - from < 1 || to - from > 4) {
                return NONE;
            }
            int all = 0;
            for (int i = from; i < to; i++) {
                if (!isDigit(d[i])) {
                    return NONE;
                }
                all = all * 10 + d[i] - '0';
            }
            return all;
        }

        static boolean stands(String text, byte[] d, int from, int to) {
            if (text.length() > to - from) {
                return false;
            }
            for (int i = 0; i < text.length(); i++) {
                if (d[from + i] != text.charAt(i)) {
                    return false;
                }
            }
            return true;
        }

        /** Which word of a row of words the bytes are, from 0 on; NONE if they are none. */
        static int wordPlace(String row, byte[] d, int from, int to) {
            int rank = 0;
            boolean same = true;
            int at = from;
            for (int i = 0; i < row.length(); i++) {
                char c = row.charAt(i);
                if (c != ' ') {
                    same = same && at < to && d[at] == c;
                    at++;
                } else if (same && at == to) {
                    return rank;
                } else {
                    rank++;
                    same = true;
                    at = from;
                }
            }
            return same && at == to ? rank : NONE;
        }

        static int glyphWidth(int c) {
            switch (c) {
                case 'i', 'l', 'j', '.', ',', '\'', ':', ';', '!', '|':
                    return 2;
                case 'm', 'w', 'M', 'W', '@':
                    return 5;
                default:
                    return 4;
            }
        }
    }

    /** An ADDRESS as it is written, and where its parts end. */
    private static final class Address {
        private static final int SEGMENTS = 6;
        private static final int SEGMENT_LIMIT = 12;
        private static final int QUERY_LIMIT = 40;
        private static final int ROOM = 160;

        private final byte[] text = new byte[ROOM];
        private long site;
        private int siteEnd;
        private int pathEnd;
        private int queryEnd;
        private int size;
        private int kept;
        private int climbs;

        void copy(Address from) {
            System.arraycopy(from.text, 0, text, 0, from.size);
            site = from.site;
            siteEnd = from.siteEnd;
            pathEnd = from.pathEnd;
            queryEnd = from.queryEnd;
            size = from.size;
        }

        boolean hasMark() {
            return size > queryEnd;
        }

        void dropMark() {
            size = queryEnd;
        }

        void takeMark(Address from) {
            int length = from.size - from.queryEnd;
            System.arraycopy(from.text, from.queryEnd, text, queryEnd, length);
            size = queryEnd + length;
        }

        /** Whether SITE, PATH and QUERY are the same. */
        boolean isAt(Address other) {
            if (queryEnd != other.queryEnd) {
                return false;
            }
            for (int i = 0; i < queryEnd; i++) {
                if (text[i] != other.text[i]) {
                    return false;
                }
            }
            return true;
        }

        void replaceQuery(Bytes query) {
            int length = Math.min(query.size, QUERY_LIMIT);
            int end = pathEnd + 1 + length;
            int mark = size - queryEnd;
            System.arraycopy(text, queryEnd, text, end, mark);
            text[pathEnd] = '?';
            System.arraycopy(query.data, 0, text, pathEnd + 1, length);
            queryEnd = end;
            size = end + mark;
        }

        /** Reads a REFERENCE; false if it is NO ADDRESS, what stands here is of no use then. */
        boolean read(byte[] d, int from, int to, Address base) {
            int stop = from;
            while (stop < to && d[stop] != '?' && d[stop] != '#') {
                stop++;
            }
            int at = from;
            if (Bytes.stands("//", d, from, stop)) {
                at = from + 2;
                while (at < stop && d[at] != '/') {
                    at++;
                }
                if (!Bytes.isName(d, from + 2, at)) {
                    return false;
                }
                takeSite(d, from, at);
            } else {
                takeSite(base.text, 0, base.siteEnd);
            }
            if (from == stop) {
                takePath(base.text, base.siteEnd, base.pathEnd);
                return readTail(d, stop, to, base);
            }
            size = ROOM;
            kept = 0;
            climbs = 0;
            if (!takeSegments(d, at, stop, stop)) {
                return false;
            }
            if (d[from] != '/' && !takeSegments(base.text, base.siteEnd, base.lastSlash(), base.pathEnd)) {
                return false;
            }
            if (kept == 0) {
                takeSegment(d, at, at, false);
            }
            takePath(text, size, ROOM);
            return readTail(d, stop, to, null);
        }

        private void takeSite(byte[] d, int from, int to) {
            System.arraycopy(d, from, text, 0, to - from);
            siteEnd = to - from;
            site = Bytes.pack(text, 2, siteEnd);
        }

        private void takePath(byte[] d, int from, int to) {
            System.arraycopy(d, from, text, siteEnd, to - from);
            pathEnd = siteEnd + to - from;
            size = pathEnd;
        }

        private int lastSlash() {
            int i = pathEnd - 1;
            while (i > siteEnd && text[i] != '/') {
                i--;
            }
            return i;
        }

        /** From the last to the first, so that a .. is known ahead of what goes with it. */
        private boolean takeSegments(byte[] d, int from, int to, int end) {
            int stop = to;
            for (int i = to - 1; i >= from; i--) {
                if (d[i] == '/') {
                    if (!takeSegment(d, i + 1, stop, stop == end)) {
                        return false;
                    }
                    stop = i;
                } else if (!isSegmentByte(d[i])) {
                    return false;
                }
            }
            return stop == from || takeSegment(d, from, stop, stop == end);
        }

        /** Those that stay stand at the far end of the room till their number is known. */
        private boolean takeSegment(byte[] d, int from, int to, boolean isLast) {
            boolean isHere = to - from == 1 && d[from] == '.';
            boolean isUp = to - from == 2 && d[from] == '.' && d[from + 1] == '.';
            if (isUp) {
                climbs++;
            }
            if ((isHere || isUp) && !isLast) {
                return true;
            }
            int length = isHere || isUp ? 0 : to - from;
            if (length > SEGMENT_LIMIT) {
                return false;
            }
            if (!isHere && !isUp && climbs > 0) {
                climbs--;
                return true;
            }
            if (kept == SEGMENTS) {
                return false;
            }
            kept++;
            size -= length + 1;
            text[size] = '/';
            System.arraycopy(d, from, text, size + 1, length);
            return true;
        }

        private boolean readTail(byte[] d, int from, int to, Address base) {
            int at = from;
            if (at < to && d[at] == '?') {
                at++;
                while (at < to && (isSegmentByte(d[at]) || d[at] == '=' || d[at] == '&' || d[at] == '+')) {
                    at++;
                }
                if (at - from - 1 > QUERY_LIMIT || at < to && d[at] != '#') {
                    return false;
                }
                System.arraycopy(d, from, text, size, at - from);
                size += at - from;
            } else if (base != null) {
                System.arraycopy(base.text, base.pathEnd, text, size, base.queryEnd - base.pathEnd);
                size += base.queryEnd - base.pathEnd;
            }
            queryEnd = size;
            if (at == to) {
                return true;
            }
            if (at + 1 == to || Bytes.nameEnd(d, at + 1, to) < to) {
                return false;
            }
            System.arraycopy(d, at, text, size, to - at);
            size += to - at;
            return true;
        }

        static boolean isSegmentByte(int c) {
            return c >= 'a' && c <= 'z' || c >= '0' && c <= '9' || c == '.' || c == '-' || c == '_';
        }
    }

    /** An ANSWER; another one at its ADDRESS is a new object, so that a KEPT one stays as it was. */
    private static final class Answer {
        private final Address at = new Address();
        private int age = NONE;
        private long cookie;
        private long cookieIs;
        private Address to;
        private boolean open;
        private byte[] body = new byte[0];
        private int keptTill;

        /** Reads a FIELD; false if it is none, or stands twice. */
        boolean readField(byte[] d, int from, int stop) {
            if (Bytes.stands("age=", d, from, stop) && age == NONE) {
                age = Bytes.number(d, from + 4, stop);
                return age != NONE;
            }
            if (Bytes.stands("cookie=", d, from, stop) && cookie == 0) {
                return readCookie(d, from + 7, stop);
            }
            if (Bytes.stands("to=", d, from, stop) && to == null) {
                to = new Address();
                return to.read(d, from + 3, stop, at);
            }
            if (Bytes.stands("open", d, from, stop) && stop - from == 4 && !open) {
                open = true;
                return true;
            }
            return false;
        }

        private boolean readCookie(byte[] d, int from, int stop) {
            int part = Bytes.nameEnd(d, from, stop);
            if (part == from || part == stop || d[part] != ':' || !Bytes.isName(d, part + 1, stop)) {
                return false;
            }
            cookie = Bytes.pack(d, from, part);
            cookieIs = Bytes.pack(d, part + 1, stop);
            return true;
        }
    }

    /** What lies outside of pages: ANSWERS, what is KEPT, COOKIES, STORES, THE CLOCK, HISTORY. */
    private static final class Net {
        private static final int ANSWERS = 12;
        private static final int KEPT = 8;
        private static final int ROWS = 20;
        private static final int TOS = 6;
        private static final int BODY_LIMIT = 1500;
        private static final int STAYS = 0;
        private static final int VISITS = 1;
        private static final int MOVES = 2;

        private final Answer empty = new Answer();
        private final Answer[] answers = new Answer[ANSWERS];
        private int answerCount;
        private final Answer[] kept = new Answer[KEPT];
        private int keptCount;
        private final long[] cookies = new long[3 * ROWS];
        private int cookieCount;
        private final long[] store = new long[3 * ROWS];
        private int storeCount;
        private int requests;
        private final Address asked = new Address();
        private final Bytes askedCookies = new Bytes(TAPE_LIMIT);
        private int clock;
        private final Address here = new Address();
        private final Address target = new Address();
        private final Address last = new Address();
        private int going = STAYS;
        private final Address[] history = new Address[ROWS];
        private int historySize = 1;
        private int historyAt;

        Net() {
            Bytes home = new Bytes(8);
            home.addText("//home/");
            here.read(home.data, 0, home.size, target);
            for (int i = 0; i < ROWS; i++) {
                history[i] = new Address();
            }
            history[0].copy(here);
        }

        int takeServer(byte[] d, int size) {
            Answer made = new Answer();
            int at = fieldEnd(d, 0, size);
            // with // nothing of a base counts, so any will do
            if (!Bytes.stands("//", d, 0, at) || !made.at.read(d, 0, at, here) || made.at.hasMark()) {
                return WRONG;
            }
            for (int guard = 0; guard < size && at < size && d[at] == ' '; guard++) {
                int from = at + 1;
                at = fieldEnd(d, from, size);
                if (!made.readField(d, from, at)) {
                    return WRONG - from;
                }
            }
            if (at == size) {
                return WRONG - size;
            }
            if (size - at - 1 > BODY_LIMIT) {
                return WRONG - (at + 1 + BODY_LIMIT);
            }
            made.body = Arrays.copyOfRange(d, at + 1, size);
            return putAnswer(made);
        }

        private static int fieldEnd(byte[] d, int from, int size) {
            int at = from;
            while (at < size && !Bytes.isBlank(d[at])) {
                at++;
            }
            return at;
        }

        private int putAnswer(Answer made) {
            int i = 0;
            while (i < answerCount && !answers[i].at.isAt(made.at)) {
                i++;
            }
            if (i == ANSWERS) {
                return NONE;
            }
            answers[i] = made;
            answerCount = Math.max(answerCount, i + 1);
            return answerCount;
        }

        /** TO FETCH an ADDRESS; the last one FOLLOWED stands in last behind it. */
        Answer fetch(Address first) {
            last.copy(first);
            last.dropMark();
            for (int tos = 1; tos <= TOS; tos++) {
                Answer got = ask();
                if (got.to == null) {
                    return got;
                }
                if (tos < TOS) {
                    last.copy(got.to);
                    last.dropMark();
                }
            }
            return empty;
        }

        private Answer ask() {
            for (int i = 0; i < keptCount; i++) {
                if (kept[i].keptTill > clock && kept[i].at.isAt(last)) {
                    return kept[i];
                }
            }
            requests++;
            asked.copy(last);
            listCookies();
            Answer got = empty;
            for (int i = 0; i < answerCount; i++) {
                if (answers[i].at.isAt(last)) {
                    got = answers[i];
                }
            }
            if (got.cookie != 0) {
                cookieCount = putRow(cookies, cookieCount, last.site, got.cookie, got.cookieIs);
            }
            if (got.age > 0) {
                keep(got);
            }
            return got;
        }

        private void listCookies() {
            askedCookies.clear();
            for (int i = 0; i < cookieCount; i++) {
                if (cookies[3 * i] == last.site) {
                    if (askedCookies.size > 0) {
                        askedCookies.add(';');
                    }
                    askedCookies.addPacked(cookies[3 * i + 1]);
                    askedCookies.add('=');
                    askedCookies.addPacked(cookies[3 * i + 2]);
                }
            }
        }

        /** The row is in the order of keeping: what goes is the one for the same ADDRESS, else the first. */
        private void keep(Answer got) {
            int gone = 0;
            while (gone < keptCount && !kept[gone].at.isAt(got.at)) {
                gone++;
            }
            if (gone == keptCount && keptCount < KEPT) {
                keptCount++;
            } else if (gone == keptCount) {
                gone = 0;
            }
            for (int i = gone; i + 1 < keptCount; i++) {
                kept[i] = kept[i + 1];
            }
            kept[keptCount - 1] = got;
            got.keptTill = clock + got.age;
        }

        private static int rowOf(long[] rows, int size, long site, long called) {
            for (int i = 0; i < size; i++) {
                if (rows[3 * i] == site && rows[3 * i + 1] == called) {
                    return i;
                }
            }
            return size;
        }

        /** How many rows there are then; a new one does not come to a full table. */
        private static int putRow(long[] rows, int size, long site, long called, long is) {
            int i = rowOf(rows, size, site, called);
            if (i == ROWS) {
                return size;
            }
            rows[3 * i] = site;
            rows[3 * i + 1] = called;
            rows[3 * i + 2] = is;
            return Math.max(size, i + 1);
        }

        void putStore(long called, long is) {
            storeCount = putRow(store, storeCount, here.site, called, is);
        }

        /** 0 if there is none. */
        long readStore(long called) {
            int i = rowOf(store, storeCount, here.site, called);
            return i < storeCount ? store[3 * i + 2] : 0;
        }

        /** Makes ready a VISIT of a REFERENCE; false if it is NO ADDRESS. */
        boolean aim(byte[] d, int from, int to) {
            if (!target.read(d, from, to, here)) {
                return false;
            }
            setOff();
            return true;
        }

        /** A page that goes is left till all that still runs in it has been left. */
        void setOff() {
            if (target.hasMark() && target.isAt(here)) {
                here.copy(target);
                pushHistory();
            } else {
                going = VISITS;
            }
        }

        boolean move(int by) {
            long to = (long) historyAt + by;
            if (to < 0 || to >= historySize) {
                return false;
            }
            historyAt = (int) to;
            target.copy(history[historyAt]);
            going = MOVES;
            return true;
        }

        Answer arrive() {
            Answer got = fetch(target);
            here.copy(last);
            here.takeMark(target);
            if (going == VISITS) {
                pushHistory();
            }
            going = STAYS;
            return got;
        }

        private void pushHistory() {
            if (historyAt + 1 == ROWS) {
                Address first = history[0];
                for (int i = 0; i + 1 < ROWS; i++) {
                    history[i] = history[i + 1];
                }
                history[ROWS - 1] = first;
            } else {
                historyAt++;
            }
            history[historyAt].copy(here);
            historySize = historyAt + 1;
        }
    }

    /** A NODE of THE TREE, or room for one (its tag is NONE then). */
    private static final class Node {
        private int tag = NONE;
        private long called;
        private int parent = NONE;
        private int firstKid = NONE;
        private int lastKid = NONE;
        private int nextKid = NONE;
        private int kids;
        private int deep;
        private int place;
        private int past;
        private long birth;
        private final Bytes bytes = new Bytes(TEXT_LIMIT); // of a TEXT its bytes, of an input its VALUE
        private int attributes;
        private final long[] names = new long[ATTRIBUTES];
        private final Bytes[] values = new Bytes[ATTRIBUTES];
        private boolean isCheck;
        private boolean ticked;

        Node() {
            for (int i = 0; i < ATTRIBUTES; i++) {
                values[i] = new Bytes(VALUE_LIMIT);
            }
        }

        /** Null if there is no such ATTRIBUTE. */
        Bytes find(long called) {
            for (int i = 0; i < attributes; i++) {
                if (names[i] == called) {
                    return values[i];
                }
            }
            return null;
        }

        Bytes read(String attribute) {
            return find(Bytes.pack(attribute));
        }

        /** The empty VALUE of a new ATTRIBUTE; null if there are four. */
        Bytes addAttribute(long called) {
            if (attributes == ATTRIBUTES) {
                return null;
            }
            names[attributes] = called;
            Bytes held = values[attributes];
            held.clear();
            attributes++;
            return held;
        }

        void copyAttributes(Node from) {
            attributes = from.attributes;
            for (int i = 0; i < attributes; i++) {
                names[i] = from.names[i];
                values[i].clear();
                values[i].addAll(from.values[i].data, 0, from.values[i].size);
            }
        }

        boolean isEmptyTag() {
            return tag >= BR && tag <= INPUT;
        }

        boolean isPieceTag() {
            return tag >= IMG && tag <= BUTTON;
        }

        void startInput() {
            Bytes first = find(Bytes.pack("value"));
            if (first != null) {
                setValue(first.data, 0, first.size);
            }
            Bytes type = find(Bytes.pack("type"));
            isCheck = type != null && type.is("check");
            ticked = isCheck && find(Bytes.pack("checked")) != null;
        }

        void setValue(byte[] d, int from, int to) {
            bytes.clear();
            bytes.addAll(d, from, Math.min(to, from + INPUT_LIMIT));
        }
    }

    /** THE TREE: room for all NODES that can be, and the order in which they lie. */
    private static final class Tree {
        private final Node[] nodes = new Node[NODES];
        private final long[] tagNames = new long[OTHER];
        private final int[] order = new int[NODES];
        private int listed;
        private int listedFor = NONE;
        private int size;
        private int changes;
        private long births;

        Tree() {
            for (int i = 0; i < NODES; i++) {
                nodes[i] = new Node();
            }
            int tag = 0;
            for (int i = 0; i < TAGS.length() && tag < OTHER; i++) {
                if (TAGS.charAt(i) == ' ') {
                    tag++;
                } else {
                    tagNames[tag] = tagNames[tag] << 8 | TAGS.charAt(i);
                }
            }
        }

        int tagOf(long called) {
            int tag = 0;
            while (tag < OTHER && tagNames[tag] != called) {
                tag++;
            }
            return tag;
        }

        void clear() {
            for (int i = 0; i < NODES; i++) {
                nodes[i].tag = NONE;
            }
            size = 0;
            grow(NONE, DIV, tagNames[DIV]);
        }

        boolean hasRoom(int parent) {
            return size < NODES && nodes[parent].deep < DEEPEST;
        }

        /** A new NODE, last in its parent. The caller has looked for room. */
        int grow(int parent, int tag, long called) {
            int n = 0;
            while (n < NODES - 1 && nodes[n].tag != NONE) {
                n++;
            }
            Node made = nodes[n];
            made.tag = tag;
            made.called = called;
            made.parent = parent;
            made.firstKid = NONE;
            made.lastKid = NONE;
            made.nextKid = NONE;
            made.kids = 0;
            made.deep = 0;
            made.attributes = 0;
            made.bytes.clear();
            made.isCheck = false;
            made.ticked = false;
            births++;
            made.birth = births;
            size++;
            changes++;
            if (parent == NONE) {
                return n;
            }
            Node over = nodes[parent];
            made.deep = over.deep + 1;
            if (over.lastKid == NONE) {
                over.firstKid = n;
            } else {
                nodes[over.lastKid].nextKid = n;
            }
            over.lastKid = n;
            over.kids++;
            return n;
        }

        /** A NODE with all in it; never THE ROOT. */
        void remove(int n) {
            Node gone = nodes[n];
            if (gone.parent == NONE) {
                return;
            }
            list();
            Node over = nodes[gone.parent];
            int before = NONE;
            int k = over.firstKid;
            while (k != NONE && k != n) {
                before = k;
                k = nodes[k].nextKid;
            }
            if (before == NONE) {
                over.firstKid = gone.nextKid;
            } else {
                nodes[before].nextKid = gone.nextKid;
            }
            if (over.lastKid == n) {
                over.lastKid = before;
            }
            over.kids--;
            free(gone.place, gone.past);
        }

        private void free(int from, int to) {
            for (int k = from; k < to; k++) {
                nodes[order[k]].tag = NONE;
                size--;
            }
            changes++;
        }

        /** One TEXT in place of all that lies in a NODE. */
        void setText(int n, byte[] d, int from, int to) {
            Node over = nodes[n];
            if (over.isEmptyTag() || over.deep >= DEEPEST) {
                return;
            }
            list();
            over.firstKid = NONE;
            over.lastKid = NONE;
            over.kids = 0;
            free(over.place + 1, over.past);
            if (from < to && hasRoom(n)) {
                int made = grow(n, TEXT, 0);
                nodes[made].bytes.addAll(d, from, to);
            }
        }

        void setClass(int n, byte[] d, int from, int to) {
            Node of = nodes[n];
            long called = Bytes.pack("class");
            Bytes held = of.find(called);
            if (held == null) {
                held = of.addAttribute(called);
            }
            if (held != null) {
                held.clear();
                held.addAll(d, from, to);
                changes++;
            }
        }

        /** Brings the tree's order up to date: where each NODE stands in it, and where all in it ends. */
        void list() {
            if (listedFor == changes) {
                return;
            }
            listedFor = changes;
            listed = 0;
            int n = ROOT;
            while (n != NONE && listed < NODES) {
                nodes[n].place = listed;
                order[listed] = n;
                listed++;
                int next = nodes[n].firstKid;
                int up = n;
                while (next == NONE && up != NONE) {
                    next = nodes[up].nextKid;
                    up = nodes[up].parent;
                }
                n = next;
            }
            for (int k = listed - 1; k >= 0; k--) {
                Node of = nodes[order[k]];
                of.past = of.lastKid == NONE ? k + 1 : nodes[of.lastKid].past;
            }
        }

        int kidAt(int n, int i) {
            int k = nodes[n].firstKid;
            for (int left = i; left > 0 && k != NONE; left--) {
                k = nodes[k].nextKid;
            }
            return k;
        }

        int rankOf(int n) {
            if (nodes[n].parent == NONE) {
                return 0;
            }
            int rank = 0;
            int k = nodes[nodes[n].parent].firstKid;
            while (k != NONE && k != n) {
                rank++;
                k = nodes[k].nextKid;
            }
            return rank;
        }

        int findId(long id) {
            list();
            long called = Bytes.pack("id");
            for (int k = 0; k < listed; k++) {
                Bytes held = nodes[order[k]].find(called);
                if (held != null && held.packed() == id) {
                    return order[k];
                }
            }
            return NONE;
        }

        /** The innermost one of a TAG that a NODE lies in. */
        int around(int n, int tag) {
            int up = nodes[n].parent;
            while (up != NONE && nodes[up].tag != tag) {
                up = nodes[up].parent;
            }
            return up;
        }

        /** Tells a NODE from any other that has its number later. */
        long markOf(int n) {
            return nodes[n].birth * 128 + n;
        }

        /** The number of the NODE that has this mark; NONE if it went. */
        int alive(long mark) {
            int n = (int) (mark & 127);
            boolean isThere = n < NODES && nodes[n].tag != NONE && nodes[n].birth == mark >> 7;
            return isThere ? n : NONE;
        }

        /** SERIALISED. */
        void print(int n, Bytes to) {
            list();
            int past = nodes[n].past;
            for (int k = nodes[n].place; k < past; k++) {
                printStart(order[k], to);
                int up = order[k];
                while (up != NONE && nodes[up].past == k + 1) {
                    printEnd(nodes[up], to);
                    up = up == n ? NONE : nodes[up].parent;
                }
            }
        }

        private void printStart(int n, Bytes to) {
            Node of = nodes[n];
            if (of.tag == TEXT) {
                if (of.parent != NONE && nodes[of.parent].tag == STYLE) {
                    to.addAll(of.bytes.data, 0, of.bytes.size);
                } else {
                    printMasked(of.bytes, to);
                }
                return;
            }
            to.add('<');
            to.addPacked(of.called);
            for (int i = 0; i < of.attributes; i++) {
                to.add(' ');
                to.addPacked(of.names[i]);
                to.addText("=\"");
                printMasked(of.values[i], to);
                to.add('"');
            }
            to.add('>');
        }

        private static void printEnd(Node of, Bytes to) {
            if (of.tag != TEXT && !of.isEmptyTag()) {
                to.addText("</");
                to.addPacked(of.called);
                to.add('>');
            }
        }

        private static void printMasked(Bytes from, Bytes to) {
            for (int i = 0; i < from.size; i++) {
                switch (from.data[i]) {
                    case '<':
                        to.addText("&lt;");
                        break;
                    case '>':
                        to.addText("&gt;");
                        break;
                    case '&':
                        to.addText("&amp;");
                        break;
                    case '"':
                        to.addText("&quot;");
                        break;
                    default:
                        to.add(from.data[i]);
                        break;
                }
            }
        }
    }

    /** Reads PAGE TEXTS into THE TREE, and tells their FAULTS. */
    private static final class Reader {
        private static final int FAULTS_TOLD = 40;
        private static final String STYLE_END = "</style";

        private final Tree tree;
        private final int[] faultKind = new int[FAULTS_TOLD];
        private final int[] faultPlace = new int[FAULTS_TOLD];
        private int faults;
        private final int[] open = new int[DEEPEST + 2];
        private final int[] openPlace = new int[DEEPEST + 2];
        private int openCount;
        private final Node tagRead = new Node(); // holds the ATTRIBUTES of the TAG that is being read
        private byte[] d = new byte[0];
        private int size;
        private int at;
        private int cutText;

        Reader(Tree tree) {
            this.tree = tree;
        }

        void read(byte[] text, int length) {
            d = text;
            size = length;
            at = 0;
            faults = 0;
            cutText = NONE;
            tree.clear();
            open[0] = ROOT;
            openCount = 1;
            for (int guard = 0; guard <= length && at < size; guard++) {
                boolean isRaw = tree.nodes[open[openCount - 1]].tag == STYLE;
                if (isRaw && !Bytes.stands(STYLE_END, d, at, size)) {
                    readRaw();
                } else if (isTag(at)) {
                    readTag();
                } else if (isComment(at)) {
                    readComment();
                } else {
                    readText();
                }
            }
            closeTo(0);
        }

        private void tell(int kind, int place) {
            if (faults < FAULTS_TOLD) {
                faultKind[faults] = kind;
                faultPlace[faults] = place;
            }
            faults++;
        }

        private boolean isTag(int i) {
            if (d[i] != '<' || i + 1 >= size) {
                return false;
            }
            return Bytes.isLetter(d[i + 1]) || d[i + 1] == '/' && i + 2 < size && Bytes.isLetter(d[i + 2]);
        }

        private boolean isComment(int i) {
            return d[i] == '<' && Bytes.stands("<!--", d, i, size);
        }

        private void readComment() {
            int i = at + 4;
            while (i < size && !Bytes.stands("-->", d, i, size)) {
                i++;
            }
            if (i >= size) {
                tell(1, at);
                at = size;
            } else {
                at = i + 3;
            }
        }

        private void readRaw() {
            int i = at;
            while (i < size && !Bytes.stands(STYLE_END, d, i, size)) {
                i++;
            }
            addRun(at, i, false);
            at = i;
        }

        private void readText() {
            int i = at + 1;
            while (i < size && !isTag(i) && !isComment(i)) {
                i++;
            }
            addRun(at, i, true);
            at = i;
        }

        private void addRun(int from, int to, boolean hasEntities) {
            int over = open[openCount - 1];
            int n = tree.nodes[over].lastKid;
            if (n == NONE || tree.nodes[n].tag != TEXT) {
                if (isBlankRun(from, to)) {
                    return;
                }
                if (!tree.hasRoom(over)) {
                    tell(6, from);
                    return;
                }
                n = tree.grow(over, TEXT, 0);
            }
            int cut = decode(from, to, hasEntities, tree.nodes[n].bytes);
            if (cut < to && cutText != n) {
                cutText = n;
                tell(7, cut);
            }
        }

        private boolean isBlankRun(int from, int to) {
            for (int i = from; i < to; i++) {
                if (!Bytes.isBlank(d[i])) {
                    return false;
                }
            }
            return true;
        }

        /** Up to where the bytes went in. */
        private int decode(int from, int to, boolean hasEntities, Bytes into) {
            int i = from;
            while (i < to && into.size < into.limit) {
                int length = hasEntities && d[i] == '&' ? entityLength(i, to) : 1;
                into.add(length == 1 ? d[i] : entityByte(i));
                i += length;
            }
            return i;
        }

        private int entityLength(int i, int to) {
            if (Bytes.stands("&lt;", d, i, to) || Bytes.stands("&gt;", d, i, to)) {
                return 4;
            }
            if (Bytes.stands("&amp;", d, i, to)) {
                return 5;
            }
            return Bytes.stands("&quot;", d, i, to) ? 6 : 1;
        }

        /** Only where entityLength has found one. */
        private int entityByte(int i) {
            switch (d[i + 1]) {
                case 'l':
                    return '<';
                case 'g':
                    return '>';
                case 'a':
                    return '&';
                default:
                    return '"';
            }
        }

        private void readTag() {
            int start = at;
            int before = faults;
            boolean isEnd = d[at + 1] == '/';
            int from = isEnd ? at + 2 : at + 1;
            int i = from;
            while (i < size && (Bytes.isLetter(d[i]) || Bytes.isDigit(d[i]))) {
                i++;
            }
            long called = Bytes.packSmall(d, from, i);
            tagRead.attributes = 0;
            for (int guard = 0; guard < size && i < size && d[i] != '>'; guard++) {
                i = Bytes.isBlank(d[i]) || d[i] == '/' ? i + 1 : readAttribute(i, isEnd);
            }
            if (i >= size) {
                faults = before;
                tell(1, start);
                at = size;
                return;
            }
            at = i + 1;
            if (isEnd) {
                endTag(called, start);
            } else {
                startTag(called, start);
            }
        }

        /** The place behind it; the page's end if it does not end. */
        private int readAttribute(int from, boolean isEnd) {
            int i = from + 1;
            while (i < size && d[i] != '=' && d[i] != '/' && d[i] != '>' && !Bytes.isBlank(d[i])) {
                i++;
            }
            long called = Bytes.packSmall(d, from, i);
            int begin = i;
            int stop = i;
            if (i < size && d[i] == '=') {
                begin = i + 1;
                boolean isQuoted = begin < size && (d[begin] == '"' || d[begin] == '\'');
                begin = isQuoted ? begin + 1 : begin;
                stop = isQuoted ? quoteEnd(begin, d[begin - 1]) : plainEnd(begin);
                i = isQuoted ? stop + 1 : stop;
            }
            if (i >= size || isEnd) {
                return i;
            }
            Bytes held = tagRead.find(called) == null ? tagRead.addAttribute(called) : null;
            if (held == null) {
                tell(2, from);
            } else {
                decode(begin, stop, true, held);
            }
            return i;
        }

        private int quoteEnd(int from, int quote) {
            int i = from;
            while (i < size && d[i] != quote) {
                i++;
            }
            return i;
        }

        private int plainEnd(int from) {
            int i = from;
            while (i < size && d[i] != '>' && !Bytes.isBlank(d[i])) {
                i++;
            }
            return i;
        }

        private void startTag(long called, int start) {
            int tag = tree.tagOf(called);
            if (tag <= FORM || tag == HR) {
                closeTag(P);
            }
            if (tag == LI && openOf(LI) > openOf(UL)) {
                closeTag(LI);
            }
            if (tag == A && closeTag(A)) {
                tell(5, start);
            }
            int over = open[openCount - 1];
            if (!tree.hasRoom(over)) {
                tell(6, start);
                return;
            }
            int n = tree.grow(over, tag, called);
            Node made = tree.nodes[n];
            made.copyAttributes(tagRead);
            if (tag == INPUT) {
                made.startInput();
            }
            if (!made.isEmptyTag() && openCount < open.length) {
                open[openCount] = n;
                openPlace[openCount] = start;
                openCount++;
            }
        }

        private void endTag(long called, int start) {
            int level = openCount - 1;
            while (level > 0 && tree.nodes[open[level]].called != called) {
                level--;
            }
            if (level == 0) {
                tell(3, start);
            } else {
                closeTo(level);
            }
        }

        /** At which level the innermost open one of a TAG is; 0 if there is none. */
        private int openOf(int tag) {
            int level = openCount - 1;
            while (level > 0 && tree.nodes[open[level]].tag != tag) {
                level--;
            }
            return level;
        }

        private boolean closeTag(int tag) {
            int level = openOf(tag);
            if (level > 0) {
                closeTo(level);
            }
            return level > 0;
        }

        /** What lies in the one at this level is closed by something else than its own end TAG. */
        private void closeTo(int level) {
            for (; openCount > level + 1; openCount--) {
                int tag = tree.nodes[open[openCount - 1]].tag;
                if (tag != P && tag != LI) {
                    tell(4, openPlace[openCount - 1]);
                }
            }
            openCount = level;
        }
    }

    /** The RULES of all styles, and the PROPERTIES that they give to each ELEMENT. */
    private static final class Sheet {
        private static final int SELECTORS = 40;
        private static final int ASKED = 40; // room for the SELECTOR of select(), and for one that is only tried
        private static final int PARTS = 3;
        private static final int MARKS = 4;
        private static final int FORCED = 1 << 16;
        private static final String NAMES =
                "display color background margin padding border width height size align float";
        private static final String DISPLAYS = "block inline none flex";
        private static final String ALIGNS = "left center right";
        private static final String FLOATS = "none left right";
        private static final int[] LEAST = {0, 0, 0, 0, 0, 0, 0, 0, 1};
        private static final int[] MOST = {0, 63, 63, 20, 20, 3, 96, 96, 3};

        private final Tree tree;
        private final int[] parts = new int[SELECTORS + 1];
        private final int[] weights = new int[SELECTORS + 1];
        private final int[] ruleOf = new int[SELECTORS + 1];
        private final long[] partNames = new long[(SELECTORS + 1) * PARTS];
        private final int[] marks = new int[(SELECTORS + 1) * PARTS];
        private final long[] markNames = new long[(SELECTORS + 1) * PARTS * MARKS];
        private final boolean[] markIsId = new boolean[(SELECTORS + 1) * PARTS * MARKS];
        private final int[] declared = new int[SELECTORS * PROPERTIES];
        private final int[] ranks = new int[PROPERTIES];
        private final int[] look = new int[NODES * PROPERTIES];
        private final long idName = Bytes.pack("id");
        private final long className = Bytes.pack("class");
        private int selectors;
        private int readFor = NONE;

        Sheet(Tree tree) {
            this.tree = tree;
        }

        void refresh() {
            if (readFor == tree.changes) {
                return;
            }
            readFor = tree.changes;
            selectors = 0;
            tree.list();
            for (int k = 0; k < tree.listed; k++) {
                Node of = tree.nodes[tree.order[k]];
                if (of.tag == TEXT && of.parent != NONE && tree.nodes[of.parent].tag == STYLE) {
                    readSheet(of.bytes.data, of.bytes.size);
                }
            }
            for (int k = 0; k < tree.listed; k++) {
                if (tree.nodes[tree.order[k]].tag != TEXT) {
                    cascade(tree.order[k]);
                }
            }
        }

        private static int indexOf(byte[] d, int from, int to, int c) {
            int i = from;
            while (i < to && d[i] != c) {
                i++;
            }
            return i;
        }

        private static int skipBlanks(byte[] d, int from, int to) {
            int i = from;
            while (i < to && Bytes.isBlank(d[i])) {
                i++;
            }
            return i;
        }

        private static int trimBlanks(byte[] d, int from, int to) {
            int i = to;
            while (i > from && Bytes.isBlank(d[i - 1])) {
                i--;
            }
            return i;
        }

        private void readSheet(byte[] d, int size) {
            int from = 0;
            for (int guard = 0; guard < size && from < size; guard++) {
                int stop = indexOf(d, from, size, '}');
                int brace = indexOf(d, from, stop, '{');
                if (stop < size && brace < stop && areSelectors(d, from, brace)) {
                    readRule(d, from, brace, stop);
                }
                from = stop + 1;
            }
        }

        private boolean areSelectors(byte[] d, int from, int to) {
            int at = from;
            for (int guard = from; guard <= to && at <= to; guard++) {
                int stop = indexOf(d, at, to, ',');
                if (!takeSelector(d, at, stop, ASKED)) {
                    return false;
                }
                at = stop + 1;
            }
            return true;
        }

        private boolean takeSelector(byte[] d, int from, int to, int slot) {
            int begin = skipBlanks(d, from, to);
            return readSelector(d, begin, trimBlanks(d, begin, to), slot) == NONE;
        }

        private void readRule(byte[] d, int from, int brace, int to) {
            int rule = selectors;
            int at = from;
            for (int guard = from; guard <= brace && at <= brace && selectors < SELECTORS; guard++) {
                int stop = indexOf(d, at, brace, ',');
                takeSelector(d, at, stop, selectors);
                ruleOf[selectors] = rule;
                selectors++;
                at = stop + 1;
            }
            if (rule == SELECTORS) {
                return;
            }
            Arrays.fill(declared, rule * PROPERTIES, (rule + 1) * PROPERTIES, NONE);
            at = brace + 1;
            for (int guard = at; guard < to && at < to; guard++) {
                int stop = indexOf(d, at, to, ';');
                readDeclaration(d, at, stop, rule);
                at = stop + 1;
            }
        }

        private void readDeclaration(byte[] d, int from, int to, int rule) {
            int at = skipBlanks(d, from, to);
            int stop = at;
            while (stop < to && Bytes.isSmall(d[stop])) {
                stop++;
            }
            int property = Bytes.wordPlace(NAMES, d, at, stop);
            int colon = skipBlanks(d, stop, to);
            if (property == NONE || colon == to || d[colon] != ':') {
                return;
            }
            int begin = skipBlanks(d, colon + 1, to);
            int end = trimBlanks(d, begin, to);
            boolean isForced = end > begin && d[end - 1] == '!';
            if (isForced) {
                end = trimBlanks(d, begin, end - 1);
            }
            int is = readValue(property, d, begin, end);
            int slot = rule * PROPERTIES + property;
            if (is != NONE && (isForced || declared[slot] < FORCED)) {
                declared[slot] = isForced ? is + FORCED : is;
            }
        }

        /** NONE if it can't be read. */
        private static int readValue(int property, byte[] d, int from, int to) {
            if (property == DISPLAY) {
                return Bytes.wordPlace(DISPLAYS, d, from, to);
            }
            if (property == ALIGN) {
                return Bytes.wordPlace(ALIGNS, d, from, to);
            }
            if (property == FLOAT) {
                return Bytes.wordPlace(FLOATS, d, from, to);
            }
            if (property == WIDTH && to > from && d[to - 1] == '%') {
                int share = Bytes.number(d, from, to - 1);
                return share >= 1 && share <= 100 ? PERCENT + share : NONE;
            }
            int number = Bytes.number(d, from, to);
            return number >= LEAST[property] && number <= MOST[property] ? number : NONE;
        }

        /** NONE if it is a SELECTOR; else the first place with which it can't go on to be one. */
        int readSelector(byte[] d, int from, int to, int slot) {
            parts[slot] = 0;
            weights[slot] = 0;
            int at = from;
            for (int part = 0; part < PARTS; part++) {
                int stop = readPart(d, at, to, slot);
                if (stop < 0) {
                    return -1 - stop;
                }
                if (stop == to) {
                    return NONE;
                }
                if (!Bytes.isBlank(d[stop]) || part == PARTS - 1) {
                    return stop;
                }
                at = skipBlanks(d, stop, to);
            }
            return at;
        }

        /** The place behind a PART; -1 less the place where it can't go on to be one. */
        private int readPart(byte[] d, int from, int to, int slot) {
            int part = slot * PARTS + parts[slot];
            parts[slot]++;
            int at = Bytes.nameEnd(d, from, to);
            partNames[part] = Bytes.pack(d, from, at);
            weights[slot] += at > from ? 1 : 0;
            if (at == from && at < to && d[at] == '*') {
                at++;
            }
            marks[part] = 0;
            while (at < to && (d[at] == '.' || d[at] == '#') && marks[part] < MARKS) {
                int stop = Bytes.nameEnd(d, at + 1, to);
                if (stop == at + 1) {
                    return -1 - stop;
                }
                int mark = part * MARKS + marks[part];
                markIsId[mark] = d[at] == '#';
                markNames[mark] = Bytes.pack(d, at + 1, stop);
                weights[slot] += markIsId[mark] ? 100 : 10;
                marks[part]++;
                at = stop;
            }
            return at == from ? -1 - at : at;
        }

        boolean isMatch(int slot, int n) {
            int part = slot * PARTS + parts[slot] - 1;
            if (!isPartMatch(part, tree.nodes[n])) {
                return false;
            }
            part--;
            int up = tree.nodes[n].parent;
            while (up != NONE && part >= slot * PARTS) {
                if (isPartMatch(part, tree.nodes[up])) {
                    part--;
                }
                up = tree.nodes[up].parent;
            }
            return part < slot * PARTS;
        }

        private boolean isPartMatch(int part, Node of) {
            if (partNames[part] != 0 && partNames[part] != of.called) {
                return false;
            }
            for (int mark = part * MARKS; mark < part * MARKS + marks[part]; mark++) {
                Bytes held = of.find(markIsId[mark] ? idName : className);
                if (held == null) {
                    return false;
                }
                if (markIsId[mark] ? held.packed() != markNames[mark] : !hasWord(held, markNames[mark])) {
                    return false;
                }
            }
            return true;
        }

        private static boolean hasWord(Bytes held, long called) {
            int from = 0;
            while (from < held.size) {
                int stop = from;
                while (stop < held.size && !Bytes.isBlank(held.data[stop])) {
                    stop++;
                }
                if (stop - from <= 8 && Bytes.pack(held.data, from, stop) == called) {
                    return true;
                }
                from = stop + 1;
            }
            return false;
        }

        private void cascade(int n) {
            Node of = tree.nodes[n];
            int first = n * PROPERTIES;
            for (int property = 0; property < PROPERTIES; property++) {
                look[first + property] = usual(of, property);
                ranks[property] = NONE;
            }
            for (int slot = 0; slot < selectors; slot++) {
                if (isMatch(slot, n)) {
                    apply(slot, first);
                }
            }
            if (n == ROOT) {
                look[first + DISPLAY] = DISPLAY_BLOCK;
                look[first + FLOAT] = 0;
            } else if (of.tag == BR || of.isPieceTag()) {
                look[first + DISPLAY] = look[first + DISPLAY] == DISPLAY_NONE ? DISPLAY_NONE : DISPLAY_INLINE;
                look[first + FLOAT] = 0;
            } else if (look[first + FLOAT] != 0 && look[first + DISPLAY] == DISPLAY_INLINE) {
                look[first + DISPLAY] = DISPLAY_BLOCK;
            }
        }

        private void apply(int slot, int first) {
            for (int property = 0; property < PROPERTIES; property++) {
                int is = declared[ruleOf[slot] * PROPERTIES + property];
                int rank = is >= FORCED ? weights[slot] + FORCED : weights[slot];
                if (is != NONE && rank >= ranks[property]) {
                    ranks[property] = rank;
                    look[first + property] = is >= FORCED ? is - FORCED : is;
                }
            }
        }

        private int usual(Node of, int property) {
            int tag = of.tag;
            switch (property) {
                case DISPLAY:
                    if (tag == STYLE) {
                        return DISPLAY_NONE;
                    }
                    return tag <= FORM || tag == HR ? DISPLAY_BLOCK : DISPLAY_INLINE;
                case COLOR:
                    return of.parent == NONE ? 63 : look[of.parent * PROPERTIES + COLOR];
                case SIZE:
                    if (tag == H1) {
                        return 2;
                    }
                    return of.parent == NONE ? 1 : look[of.parent * PROPERTIES + SIZE];
                case ALIGN:
                    return of.parent == NONE ? 0 : look[of.parent * PROPERTIES + ALIGN];
                case MARGIN:
                    return tag == P || tag == H1 || tag == UL ? 2 : 0;
                case PADDING:
                    if (tag == UL) {
                        return 4;
                    }
                    return tag == BUTTON ? 1 : 0;
                case BORDER:
                    return tag == BUTTON || tag == INPUT || tag == HR ? 1 : 0;
                case FLOAT:
                    return 0;
                default:
                    return NONE;
            }
        }
    }

    /** How a NODE is laid, with what counts of its style, and where. */
    private static final class Box {
        private static final int NOT_LAID = 0;
        private static final int BLOCK = 1;
        private static final int PIECE = 2;
        private static final int INLINE = 3;

        private int kind;
        private int holder;
        private int x;
        private int y;
        private int width;
        private int height;
        private int margin;
        private int border;
        private int edge; // border and padding of one side
        private int color;
        private int background;
        private int size;
        private int align;
        private int side; // of a FLOAT 1 left, 2 right; else 0
        private int above;
        private int below;
        private boolean joinsAbove;
        private boolean joinsBelow;
        private int firstWord;
        private int words;

        boolean isPainted() {
            return kind == BLOCK || kind == PIECE;
        }

        boolean isBlockInFlow() {
            return kind == BLOCK && side == 0;
        }

        int innerWidth() {
            return Math.max(0, width - 2 * edge);
        }

        boolean holds(int px, int py, int rim) {
            return px >= x + rim && px < x + width - rim && py >= y + rim && py < y + height - rim;
        }

        /** NONE where nothing is painted. */
        int colorAt(int px, int py) {
            if (!holds(px, py, 0)) {
                return NONE;
            }
            return holds(px, py, border) ? background : color;
        }
    }

    /** Where all that is shown stands, and THE PICTURE of it. */
    private static final class Layout {
        private static final int WORD = 6;
        private static final int WORD_X = 3;
        private static final int WORD_Y = 4;
        private static final int WORD_WIDTH = 5;
        private static final int LINE = 7;
        private static final int GAP = 3;
        private static final int PICTURE_LIMIT = 400;

        private final Tree tree;
        private final Sheet sheet;
        private final Box[] boxes = new Box[NODES];
        private int screenWidth = 48;
        private int laidFor = NONE;
        private int[] words = new int[64 * WORD];
        private int wordCount;
        private final Bytes oneLine = new Bytes(NODES * TEXT_LIMIT);
        private Box block = new Box(); // the BLOCK in which LINES are laid just now
        private int[] line = new int[64]; // its ITEMS: a WORD, or -1 less a NODE
        private int lineCount;
        private int lineY;
        private int cursor;
        private int right;
        private int nextEnd; // the least end of the FLOATS beside the LINE; NONE without any
        private boolean isAfterBlank;
        private final int[] floats = new int[NODES]; // those that are put, then those that wait
        private int floatsPut;
        private int floatsKnown;
        private int floatsEnd;

        Layout(Tree tree, Sheet sheet) {
            this.tree = tree;
            this.sheet = sheet;
            for (int i = 0; i < NODES; i++) {
                boxes[i] = new Box();
            }
        }

        void resize(int width) {
            screenWidth = width;
            laidFor = NONE;
        }

        /** Widths come from outside, heights from inside: so first down the tree, then up, then down with places. */
        void refresh() {
            if (laidFor == tree.changes) {
                return;
            }
            laidFor = tree.changes;
            wordCount = 0;
            tree.list();
            for (int k = 0; k < tree.listed; k++) {
                measure(tree.order[k]);
            }
            for (int k = tree.listed - 1; k >= 0; k--) {
                int n = tree.order[k];
                if (boxes[n].kind == Box.BLOCK) {
                    joinMargins(n);
                    if (look(n, DISPLAY) == DISPLAY_FLEX) {
                        layFlex(n);
                    } else {
                        layFlow(n);
                    }
                }
            }
            for (int k = 1; k < tree.listed; k++) {
                moveToHolder(boxes[tree.order[k]]);
            }
        }

        private int look(int n, int property) {
            return sheet.look[n * PROPERTIES + property];
        }

        private void measure(int n) {
            Node of = tree.nodes[n];
            Box box = boxes[n];
            box.kind = kindOf(n, of);
            if (box.kind == Box.NOT_LAID) {
                return;
            }
            int styled = of.tag == TEXT ? of.parent : n;
            box.margin = look(styled, MARGIN);
            box.border = look(styled, BORDER);
            box.edge = box.border + look(styled, PADDING);
            box.color = look(styled, COLOR);
            box.background = look(styled, BACKGROUND);
            box.size = look(styled, SIZE);
            box.align = look(styled, ALIGN);
            box.side = 0;
            box.words = 0;
            box.x = 0;
            box.y = 0;
            if (n == ROOT) {
                box.holder = NONE;
                box.width = screenWidth;
                return;
            }
            box.holder = boxes[of.parent].kind == Box.BLOCK ? of.parent : boxes[of.parent].holder;
            if (of.tag == TEXT) {
                listWords(n, of.bytes, box);
            } else if (box.kind == Box.PIECE) {
                measurePiece(n, of.tag, box);
            } else if (box.kind == Box.BLOCK) {
                measureBlock(n, box);
            }
        }

        private int kindOf(int n, Node of) {
            if (n == ROOT) {
                return Box.BLOCK;
            }
            int over = boxes[of.parent].kind;
            boolean isHidden = of.tag != TEXT && look(n, DISPLAY) == DISPLAY_NONE;
            if (isHidden || over == Box.NOT_LAID || over == Box.PIECE) {
                return Box.NOT_LAID;
            }
            boolean isFlexed = over == Box.BLOCK && look(of.parent, DISPLAY) == DISPLAY_FLEX;
            if (of.tag == TEXT || of.tag == BR) {
                return isFlexed ? Box.NOT_LAID : Box.INLINE;
            }
            if (of.isPieceTag()) {
                return Box.PIECE;
            }
            if (isFlexed) {
                return Box.BLOCK;
            }
            if (over == Box.INLINE) {
                return of.tag == HR ? Box.NOT_LAID : Box.INLINE;
            }
            return look(n, DISPLAY) == DISPLAY_INLINE ? Box.INLINE : Box.BLOCK;
        }

        private void listWords(int n, Bytes text, Box box) {
            box.firstWord = wordCount;
            int from = 0;
            while (from < text.size) {
                int stop = from;
                int wide = 0;
                while (stop < text.size && !Bytes.isBlank(text.data[stop])) {
                    wide += Bytes.glyphWidth(text.data[stop]);
                    stop++;
                }
                if (stop > from) {
                    addWord(n, from, stop - from, wide * box.size);
                }
                from = stop + 1;
            }
            box.words = wordCount - box.firstWord;
        }

        private void addWord(int n, int from, int length, int wide) {
            int at = wordCount * WORD;
            if (at + WORD > words.length) {
                words = Arrays.copyOf(words, words.length * 2);
            }
            words[at] = n;
            words[at + 1] = from;
            words[at + 2] = length;
            words[at + WORD_WIDTH] = wide;
            wordCount++;
        }

        /** A width that is told, or else the one that is usual. */
        private int widthTold(int n, int usual) {
            int told = look(n, WIDTH);
            if (told == NONE) {
                return usual;
            }
            int holder = boxes[n].holder;
            int inner = holder == NONE ? screenWidth : boxes[holder].innerWidth();
            return told > PERCENT ? inner * (told - PERCENT) / 100 : told;
        }

        private void measurePiece(int n, int tag, Box box) {
            int lineOf = LINE * box.size;
            if (tag == IMG) {
                box.width = widthTold(n, 8);
                box.height = look(n, HEIGHT) == NONE ? 8 : look(n, HEIGHT);
            } else if (tag == INPUT) {
                box.width = widthTold(n, 24);
                box.height = lineOf + 4;
            } else {
                box.width = textWidth(n, box.size) + 2 * box.edge;
                box.height = lineOf + 2 * box.edge;
            }
        }

        private void measureBlock(int n, Box box) {
            Box holder = boxes[box.holder];
            boolean isFlexed = look(box.holder, DISPLAY) == DISPLAY_FLEX;
            box.side = isFlexed ? 0 : look(n, FLOAT);
            int usual = holder.innerWidth() - 2 * box.margin;
            if (isFlexed) {
                usual = textWidth(n, box.size) + 2 * box.edge;
            } else if (box.side != 0) {
                usual = Math.min(usual, textWidth(n, box.size) + 2 * box.edge);
            }
            box.width = Math.max(widthTold(n, usual), 2 * box.edge);
        }

        /** Gathers TEXT IN ONE LINE; how wide it is. */
        private int textWidth(int n, int size) {
            oneLine.clear();
            boolean isBlank = false;
            int wide = 0;
            for (int k = tree.nodes[n].place; k < tree.nodes[n].past; k++) {
                Node of = tree.nodes[tree.order[k]];
                for (int i = 0; of.tag == TEXT && i < of.bytes.size; i++) {
                    int c = of.bytes.data[i];
                    if (Bytes.isBlank(c)) {
                        isBlank = oneLine.size > 0;
                        continue;
                    }
                    if (isBlank) {
                        oneLine.add(' ');
                        wide += GAP;
                    }
                    isBlank = false;
                    oneLine.add(c);
                    wide += Bytes.glyphWidth(c);
                }
            }
            return wide * size;
        }

        private void joinMargins(int n) {
            Node of = tree.nodes[n];
            Box box = boxes[n];
            box.above = box.margin;
            box.below = box.margin;
            box.joinsAbove = false;
            box.joinsBelow = false;
            boolean mayJoin = n != ROOT && box.side == 0 && box.edge == 0
                    && look(n, DISPLAY) == DISPLAY_BLOCK && look(of.parent, DISPLAY) == DISPLAY_BLOCK;
            if (!mayJoin) {
                return;
            }
            int first = NONE;
            int last = NONE;
            for (int k = of.firstKid; k != NONE; k = tree.nodes[k].nextKid) {
                if (boxes[k].kind != Box.NOT_LAID) {
                    first = first == NONE ? k : first;
                    last = k;
                }
            }
            if (first != NONE && boxes[first].isBlockInFlow()) {
                box.joinsAbove = true;
                box.above = Math.max(box.margin, boxes[first].above);
            }
            if (last != NONE && boxes[last].isBlockInFlow() && look(n, HEIGHT) == NONE) {
                box.joinsBelow = true;
                box.below = Math.max(box.margin, boxes[last].below);
            }
        }

        private void setHeight(int n, Box box, int inner) {
            int told = look(n, HEIGHT);
            box.height = 2 * box.edge + inner;
            if (told != NONE) {
                box.height = Math.max(told, 2 * box.edge);
            }
        }

        private void layFlex(int n) {
            Box own = boxes[n];
            int x = own.edge;
            int highest = 0;
            for (int k = tree.nodes[n].firstKid; k != NONE; k = tree.nodes[k].nextKid) {
                Box box = boxes[k];
                if (box.kind != Box.NOT_LAID) {
                    box.x = x + box.margin;
                    box.y = own.edge + box.margin;
                    x += box.width + 2 * box.margin;
                    highest = Math.max(highest, box.height + 2 * box.margin);
                }
            }
            setHeight(n, own, highest);
        }

        /** DOWN a BLOCK: all places are told from its own corner. */
        private void layFlow(int n) {
            Box own = boxes[n];
            startFlow(own);
            boolean isFirst = true;
            Box before = null;
            int past = tree.nodes[n].past;
            int next = tree.nodes[n].place + 1;
            for (int k = next; k < past; k++) {
                int m = tree.order[k];
                Box box = boxes[m];
                if (k < next || box.kind == Box.NOT_LAID) {
                    next = Math.max(next, tree.nodes[m].past);
                    continue;
                }
                next = box.kind == Box.INLINE ? k + 1 : tree.nodes[m].past;
                if (box.isBlockInFlow()) {
                    closeLine();
                    int apart = isFirst && own.joinsAbove ? 0 : box.above;
                    apart = before == null ? apart : Math.max(before.below, box.above);
                    box.x = own.edge + box.margin;
                    box.y = Math.max(lineY + apart, floatsEnd);
                    lineY = box.y + box.height;
                    before = box;
                } else {
                    if (before != null) {
                        lineY += before.below;
                        before = null;
                        openAt(lineY);
                    }
                    if (tree.nodes[m].tag == TEXT) {
                        putWords(tree.nodes[m].bytes, box);
                    } else {
                        layInLines(m, box);
                    }
                }
                isFirst = false;
            }
            closeLine();
            if (before != null && !own.joinsBelow) {
                lineY += before.below;
            }
            setHeight(n, own, Math.max(lineY, floatsEnd) - own.edge);
        }

        private void startFlow(Box own) {
            block = own;
            floatsPut = 0;
            floatsKnown = 0;
            floatsEnd = own.edge;
            lineCount = 0;
            lineY = own.edge;
            isAfterBlank = false;
            openAt(lineY);
        }

        private void layInLines(int n, Box box) {
            if (tree.nodes[n].tag == BR) {
                if (lineCount == 0) {
                    lineY += LINE * box.size;
                    openAt(lineY);
                } else {
                    closeLine();
                }
            } else if (box.kind == Box.PIECE) {
                putItem(-1 - n, box.width, box.size);
            } else if (box.kind == Box.BLOCK) {
                floats[floatsKnown] = n;
                floatsKnown++;
                if (lineCount == 0) {
                    putFloat(box);
                    floatsPut++;
                    openAt(lineY);
                }
            }
        }

        private void putWords(Bytes text, Box box) {
            int seen = 0;
            for (int i = box.firstWord; i < box.firstWord + box.words; i++) {
                int from = words[i * WORD + 1];
                isAfterBlank = isAfterBlank || from > seen;
                putItem(i, words[i * WORD + WORD_WIDTH], box.size);
                seen = from + words[i * WORD + 2];
            }
            isAfterBlank = isAfterBlank || seen < text.size;
        }

        private void putItem(int item, int wide, int size) {
            int gap = lineCount > 0 && isAfterBlank ? GAP * size : 0;
            for (int guard = 0; guard <= NODES + 1 && cursor + gap + wide > right; guard++) {
                if (lineCount > 0) {
                    closeLine();
                    gap = 0;
                } else if (nextEnd == NONE) {
                    break;
                } else {
                    lineY = nextEnd;
                    openAt(lineY);
                }
            }
            if (item < 0) {
                boxes[-1 - item].x = cursor + gap;
            } else {
                words[item * WORD + WORD_X] = cursor + gap;
            }
            if (lineCount == line.length) {
                line = Arrays.copyOf(line, 2 * lineCount);
            }
            line[lineCount] = item;
            lineCount++;
            cursor += gap + wide;
            isAfterBlank = false;
        }

        /** A LINE that has nothing stays open: no FLOAT waits for it. */
        private void closeLine() {
            if (lineCount == 0) {
                return;
            }
            int left = Math.max(0, right - cursor);
            int shift = block.align == 0 ? 0 : block.align == 1 ? left / 2 : left;
            int highest = 0;
            for (int i = 0; i < lineCount; i++) {
                highest = Math.max(highest, line[i] < 0 ? boxes[-1 - line[i]].height : wordHeight(line[i]));
            }
            lineY += highest;
            for (int i = 0; i < lineCount; i++) {
                int item = line[i];
                if (item < 0) {
                    Box box = boxes[-1 - item];
                    box.x += shift;
                    box.y = lineY - box.height;
                } else {
                    words[item * WORD + WORD_X] += shift;
                    words[item * WORD + WORD_Y] = lineY - wordHeight(item);
                }
            }
            lineCount = 0;
            for (; floatsPut < floatsKnown; floatsPut++) {
                putFloat(boxes[floats[floatsPut]]);
            }
            openAt(lineY);
        }

        /** From where to where a LINE at y goes, by the FLOATS that are AT y; nothing may be on the LINE. */
        private void openAt(int y) {
            cursor = block.edge;
            right = Math.max(block.edge, block.width - block.edge);
            nextEnd = NONE;
            for (int i = 0; i < floatsPut; i++) {
                Box box = boxes[floats[i]];
                int end = box.y + box.height + box.margin;
                if (y < box.y - box.margin || y >= end) {
                    continue;
                }
                nextEnd = nextEnd == NONE ? end : Math.min(nextEnd, end);
                if (box.side == 1) {
                    cursor = Math.max(cursor, box.x + box.width + box.margin);
                } else {
                    right = Math.min(right, box.x - box.margin);
                }
            }
        }

        int wordHeight(int i) {
            return LINE * boxes[words[i * WORD]].size;
        }

        private void putFloat(Box box) {
            int y = lineY;
            for (int i = 0; i < floatsPut; i++) {
                Box earlier = boxes[floats[i]];
                y = Math.max(y, earlier.y - earlier.margin);
            }
            int wide = box.width + 2 * box.margin;
            openAt(y);
            for (int guard = 0; guard <= NODES && wide > right - cursor && nextEnd != NONE; guard++) {
                y = nextEnd;
                openAt(y);
            }
            box.x = box.side == 1 ? cursor + box.margin : right - box.margin - box.width;
            box.y = y + box.margin;
            floatsEnd = Math.max(floatsEnd, box.y + box.height + box.margin);
        }

        private void moveToHolder(Box box) {
            if (box.kind == Box.NOT_LAID || box.holder == NONE) {
                return;
            }
            Box holder = boxes[box.holder];
            box.x += holder.x;
            box.y += holder.y;
            for (int i = box.firstWord; i < box.firstWord + box.words; i++) {
                words[i * WORD + WORD_X] += holder.x;
                words[i * WORD + WORD_Y] += holder.y;
            }
        }

        int pictureHeight() {
            return Math.min(boxes[ROOT].height, PICTURE_LIMIT);
        }

        boolean isInPicture(int x, int y) {
            return x >= 0 && x < screenWidth && y >= 0 && y < pictureHeight();
        }

        int nodeAt(int x, int y) {
            if (!isInPicture(x, y)) {
                return NONE;
            }
            for (int k = tree.listed - 1; k >= 0; k--) {
                int n = tree.order[k];
                Box box = boxes[n];
                if (box.isPainted() && box.holds(x, y, 0)) {
                    return n;
                }
                if (box.kind == Box.INLINE && wordAt(box, x, y) != NONE) {
                    return n;
                }
            }
            return NONE;
        }

        private int wordAt(Box box, int x, int y) {
            for (int i = box.firstWord; i < box.firstWord + box.words; i++) {
                int left = words[i * WORD + WORD_X];
                int upper = words[i * WORD + WORD_Y];
                if (x >= left && x < left + words[i * WORD + WORD_WIDTH] && y >= upper && y < upper + LINE * box.size) {
                    return i;
                }
            }
            return NONE;
        }

        /** What is painted last counts: so from the last one back. */
        int colorAt(int x, int y) {
            for (int k = tree.listed - 1; k >= 0; k--) {
                int n = tree.order[k];
                int color = NONE;
                switch (boxes[n].kind) {
                    case Box.BLOCK:
                        color = boxes[n].colorAt(x, y);
                        break;
                    case Box.PIECE:
                        color = pieceColorAt(n, x, y);
                        break;
                    case Box.INLINE:
                        color = wordColorAt(n, x, y);
                        break;
                    default:
                        break;
                }
                if (color != NONE) {
                    return color;
                }
            }
            return 0;
        }

        private int wordColorAt(int n, int x, int y) {
            Box box = boxes[n];
            int i = wordAt(box, x, y);
            if (i == NONE) {
                return NONE;
            }
            int from = words[i * WORD + 1];
            int left = x - words[i * WORD + WORD_X];
            int down = y - words[i * WORD + WORD_Y];
            boolean isOn = isLetterOn(tree.nodes[n].bytes, from, words[i * WORD + WORD_WIDTH], box.size, left, down);
            return isOn ? box.color : NONE;
        }

        private int pieceColorAt(int n, int x, int y) {
            Node of = tree.nodes[n];
            Box box = boxes[n];
            if (of.tag == IMG) {
                return box.holds(x, y, 0) ? box.color : NONE;
            }
            boolean isOn;
            if (of.ticked) {
                isOn = box.holds(x, y, box.edge);
            } else {
                Bytes text = of.bytes;
                if (of.tag == BUTTON) {
                    textWidth(n, box.size);
                    text = oneLine;
                }
                isOn = isLetterOn(text, 0, box.innerWidth(), box.size, x - box.x - box.edge, y - box.y - box.edge);
            }
            return isOn ? box.color : box.colorAt(x, y);
        }

        /** Whether a point, told from the corner of a row of bytes, is one of a GLYPH that goes in wholly. */
        private static boolean isLetterOn(Bytes text, int from, int room, int size, int x, int y) {
            int left = 0;
            for (int i = from; i < text.size && left <= x; i++) {
                int c = text.data[i];
                boolean isBlank = Bytes.isBlank(c);
                int wide = size * (isBlank ? GAP : Bytes.glyphWidth(c));
                if (left + wide > room) {
                    return false;
                }
                if (x < left + wide) {
                    return !isBlank && isGlyphOn(c, size, x - left, y);
                }
                left += wide;
            }
            return false;
        }

        private static boolean isGlyphOn(int c, int size, int x, int y) {
            if (size < 1 || x < 0 || y < size) {
                return false;
            }
            int i = x / size;
            int j = y / size - 1;
            if (i > Bytes.glyphWidth(c) - 2 || j > 4) {
                return false;
            }
            return (c * 40503 >> 3 >> (5 * i + j) % 13 & 1) == 1;
        }
    }

    /** EVENTS, SCRIPTS and TASKS: what runs is a row of STEPS, then the way of an EVENT, then its DEFAULT. */
    private static final class Acts {
        private static final int PRESS = -1;
        private static final int STEPS = 200;
        private static final int TASKS = 20;
        private static final int GET_LIMIT = 200;
        private static final String WORDS = "text class add del val go get put read wait stop";
        private static final int DO_TEXT = 0;
        private static final int DO_CLASS = 1;
        private static final int DO_ADD = 2;
        private static final int DO_DEL = 3;
        private static final int DO_VAL = 4;
        private static final int DO_GO = 5;
        private static final int DO_GET = 6;
        private static final int DO_PUT = 7;
        private static final int DO_WAIT = 9;
        private static final int DO_STOP = 10;

        private final Tree tree;
        private final Net net;
        private final Reader reader;
        private final long[] tasks = new long[2 * TASKS]; // of each its time, and its self
        private final Bytes[] taskText = new Bytes[TASKS];
        private int taskCount;
        private long focus = NONE;
        private int stepsRun;
        private int wrongSteps;
        private int stepsLeft;
        private int refusals;
        private final Bytes running = new Bytes(TAPE_LIMIT);
        private int at;
        private long self;
        private final long[] way = new long[NODES];
        private int wayAt;
        private int wayCount;
        private int asking = NONE; // the NODE for which a get is still to be FETCHED
        private int cause; // PRESS, or the byte of a key, while an EVENT may still have a DEFAULT; else 0
        private final Bytes scratch = new Bytes(Address.QUERY_LIMIT);

        Acts(Tree tree, Net net, Reader reader) {
            this.tree = tree;
            this.net = net;
            this.reader = reader;
            for (int i = 0; i < TASKS; i++) {
                taskText[i] = new Bytes(VALUE_LIMIT);
            }
        }

        /** Each call begins with nothing that runs. */
        void begin() {
            stepsLeft = STEPS;
            cause = 0;
            running.clear();
            at = 0;
            wayAt = 0;
            wayCount = 0;
        }

        void startScript(Bytes text, long of) {
            running.clear();
            running.addAll(text.data, 0, text.size);
            at = 0;
            self = of;
        }

        void startEvent(int n, int why) {
            cause = why;
            wayAt = 0;
            wayCount = 0;
            for (int up = n; up != NONE && wayCount < NODES; up = tree.nodes[up].parent) {
                way[wayCount] = tree.markOf(up);
                wayCount++;
            }
        }

        /** A page that has just been read: nothing of the one before goes on, and load comes. */
        void startPage() {
            focus = NONE;
            taskCount = 0;
            cause = 0;
            running.clear();
            at = 0;
            wayAt = 0;
            wayCount = 0;
            tree.list();
            for (int k = 0; k < tree.listed; k++) {
                int n = tree.order[k];
                if (tree.nodes[n].read("onload") != null) {
                    way[wayCount] = tree.markOf(n);
                    wayCount++;
                }
            }
        }

        /** Does all there is to do, till nothing is left or the STEPS of this call are used up. */
        void settle() {
            for (int guard = 0; guard < 1000000; guard++) {
                if (net.going != Net.STAYS) {
                    Answer got = net.arrive();
                    reader.read(got.body, got.body.length);
                    startPage();
                } else if (asking != NONE) {
                    finishGet();
                } else if (stepsLeft == 0) {
                    return;
                } else if (at < running.size) {
                    runNext();
                } else if (wayAt < wayCount) {
                    listenNext();
                } else if (cause != 0) {
                    doDefault();
                } else {
                    return;
                }
            }
        }

        private void listenNext() {
            long mark = way[wayAt];
            int n = tree.alive(mark);
            wayAt++;
            if (n == NONE) {
                return;
            }
            String sort = cause == 0 ? "onload" : cause == PRESS ? "onpress" : "onkey";
            Bytes listener = tree.nodes[n].read(sort);
            if (listener != null) {
                startScript(listener, mark);
            }
        }

        boolean takeDueTask() {
            int due = NONE;
            for (int i = 0; i < taskCount; i++) {
                if (tasks[2 * i] <= net.clock && (due == NONE || tasks[2 * i] < tasks[2 * due])) {
                    due = i;
                }
            }
            if (due == NONE || stepsLeft == 0) {
                return false;
            }
            Bytes text = taskText[due];
            startScript(text, tasks[2 * due + 1]);
            taskCount--;
            for (int i = due; i < taskCount; i++) {
                tasks[2 * i] = tasks[2 * i + 2];
                tasks[2 * i + 1] = tasks[2 * i + 3];
                taskText[i] = taskText[i + 1];
            }
            taskText[taskCount] = text;
            return true;
        }

        private void runNext() {
            int from = at;
            int stop = at;
            while (stop < running.size && running.data[stop] != ';') {
                stop++;
            }
            at = stop + 1;
            while (from < stop && Bytes.isBlank(running.data[from])) {
                from++;
            }
            if (from == stop) {
                return;
            }
            stepsLeft--;
            if (runStep(running.data, from, stop)) {
                stepsRun++;
            } else {
                wrongSteps++;
            }
        }

        private static int blankAt(byte[] d, int from, int to) {
            int i = from;
            while (i < to && d[i] != ' ') {
                i++;
            }
            return i;
        }

        /** False for a WRONG STEP. */
        private boolean runStep(byte[] d, int from, int to) {
            int stop = blankAt(d, from, to);
            int what = Bytes.wordPlace(WORDS, d, from, stop);
            if (what == DO_STOP) {
                if (stop == to && cause != 0) {
                    cause = 0;
                    wayCount = wayAt;
                }
                return stop == to;
            }
            if (what == NONE || stop == to) {
                return false;
            }
            switch (what) {
                case DO_GO:
                    net.aim(d, stop + 1, to);
                    return true;
                case DO_PUT:
                    return runPut(d, stop + 1, to);
                case DO_WAIT:
                    return runWait(d, stop + 1, to);
                default:
                    return runOnNode(what, d, stop + 1, to);
            }
        }

        private boolean runPut(byte[] d, int from, int to) {
            int stop = blankAt(d, from, to);
            if (stop == to || !Bytes.isName(d, from, stop) || !Bytes.isName(d, stop + 1, to)) {
                return false;
            }
            net.putStore(Bytes.pack(d, from, stop), Bytes.pack(d, stop + 1, to));
            return true;
        }

        private boolean runWait(byte[] d, int from, int to) {
            int stop = blankAt(d, from, to);
            int time = Bytes.number(d, from, stop);
            if (stop == to || time == NONE) {
                return false;
            }
            if (taskCount < TASKS) {
                tasks[2 * taskCount] = net.clock + time;
                tasks[2 * taskCount + 1] = self;
                taskText[taskCount].clear();
                taskText[taskCount].addAll(d, stop + 1, to);
                taskCount++;
            }
            return true;
        }

        private boolean runOnNode(int what, byte[] d, int from, int to) {
            int stop = blankAt(d, from, to);
            int n = nodeCalled(d, from, stop);
            if (n == NONE) {
                return false;
            }
            if (what == DO_DEL) {
                if (stop == to) {
                    tree.remove(n);
                }
                return stop == to;
            }
            if (stop == to) {
                return false;
            }
            switch (what) {
                case DO_TEXT:
                    tree.setText(n, d, stop + 1, to);
                    return true;
                case DO_CLASS:
                    tree.setClass(n, d, stop + 1, to);
                    return true;
                case DO_VAL:
                    if (tree.nodes[n].tag == INPUT) {
                        tree.nodes[n].setValue(d, stop + 1, to);
                    }
                    return true;
                case DO_GET:
                    asking = net.target.read(d, stop + 1, to, net.here) ? n : NONE;
                    return true;
                case DO_ADD:
                    return runAdd(n, d, stop + 1, to);
                default:
                    if (!lookUp(d, stop + 1, to)) {
                        return false;
                    }
                    tree.setText(n, scratch.data, 0, scratch.size);
                    return true;
            }
        }

        private int nodeCalled(byte[] d, int from, int to) {
            if (!Bytes.isName(d, from, to)) {
                return NONE;
            }
            long called = Bytes.pack(d, from, to);
            return called == Bytes.pack("self") ? tree.alive(self) : tree.findId(called);
        }

        private boolean runAdd(int n, byte[] d, int from, int to) {
            if (!Bytes.isName(d, from, to)) {
                return false;
            }
            if (!tree.nodes[n].isEmptyTag() && tree.hasRoom(n)) {
                long called = Bytes.pack(d, from, to);
                tree.grow(n, tree.tagOf(called), called);
            }
            return true;
        }

        private void finishGet() {
            int n = asking;
            asking = NONE;
            Answer got = net.fetch(net.target);
            if (got.open || net.last.site == net.here.site) {
                tree.setText(n, got.body, 0, Math.min(got.body.length, GET_LIMIT));
            } else {
                refusals++;
            }
        }

        /** What THE STORE has for a NAME comes into scratch; false if it is no NAME. */
        private boolean lookUp(byte[] d, int from, int to) {
            if (!Bytes.isName(d, from, to)) {
                return false;
            }
            scratch.clear();
            scratch.addPacked(net.readStore(Bytes.pack(d, from, to)));
            return true;
        }

        private void doDefault() {
            int why = cause;
            cause = 0;
            if (why != PRESS) {
                typeKey(why);
                return;
            }
            focus = NONE;
            boolean isDone = false;
            for (int i = 0; i < wayCount && !isDone; i++) {
                int n = tree.alive(way[i]);
                isDone = n != NONE && pressOn(n);
            }
        }

        /** False for what has no DEFAULT. */
        private boolean pressOn(int n) {
            Node of = tree.nodes[n];
            if (of.tag == A) {
                Bytes href = of.read("href");
                if (href != null) {
                    net.aim(href.data, 0, href.size);
                }
                return href != null;
            }
            if (of.tag == INPUT) {
                if (of.isCheck) {
                    of.ticked = !of.ticked;
                } else {
                    focus = tree.markOf(n);
                }
                return true;
            }
            int form = of.tag == BUTTON ? tree.around(n, FORM) : NONE;
            if (form != NONE) {
                send(form);
            }
            return form != NONE;
        }

        private void typeKey(int c) {
            int n = tree.alive(focus);
            if (n == NONE) {
                return;
            }
            Bytes held = tree.nodes[n].bytes;
            if (c == 8) {
                held.dropLast();
            } else if (c != 10) {
                if (held.size < INPUT_LIMIT) {
                    held.add(c);
                }
            } else if (tree.around(n, FORM) != NONE) {
                send(tree.around(n, FORM));
            }
        }

        private void send(int form) {
            Bytes action = tree.nodes[form].read("action");
            if (action == null) {
                net.target.copy(net.here);
            } else if (!net.target.read(action.data, 0, action.size, net.here)) {
                return;
            }
            scratch.clear();
            boolean isFirst = true;
            tree.list();
            for (int k = tree.nodes[form].place; k < tree.nodes[form].past; k++) {
                Node of = tree.nodes[tree.order[k]];
                Bytes called = of.tag == INPUT ? of.read("name") : null;
                if (called != null && called.isNameWhole() && (of.ticked || !of.isCheck)) {
                    if (!isFirst) {
                        scratch.add('&');
                    }
                    isFirst = false;
                    scratch.addAll(called.data, 0, called.size);
                    scratch.add('=');
                    addSent(of);
                }
            }
            net.target.replaceQuery(scratch);
            net.setOff();
        }

        private void addSent(Node of) {
            if (of.isCheck) {
                scratch.addText("on");
                return;
            }
            for (int i = 0; i < of.bytes.size; i++) {
                int c = of.bytes.data[i];
                if (c == ' ') {
                    scratch.add('+');
                } else if (Address.isSegmentByte(c)) {
                    scratch.add(c);
                }
            }
        }
    }
}
