/** Rows of bytes by schemas that texts say: looked at, made normal, and told again as other schemas. */
public final class RecordTeller {
    public static final int NONE = -1;
    public static final int UNRESOLVED = -20, FULL = -31, EMPTY = -34;

    private static final int ROOM = 4096;
    private static final int PLACES = 8;
    private static final int ALL_ROWS = 0, OUT = 1;
    private static final int NO_TEXT = 1;

    private final Cells tape = new Cells(ROOM);
    private final Cells out = new Cells(ROOM);
    private final Schema[] kept = new Schema[PLACES];
    private final Text text = new Text();
    private final Drafter drafter = new Drafter();
    private final Looker looker = new Looker();
    private final Teller teller = new Teller();
    private final Fitter fitter = new Fitter();
    private Rows current = new Rows();
    private Rows spare = new Rows();
    private int rowsPlace = NONE;
    private int faultPlace = NONE;

    public RecordTeller() {
    }

    public int feed(int a, int b, int c, int d, int e) throws IllegalStateException {
        if (tape.count() + 20 > ROOM) {
            throw new IllegalStateException();
        }
        feedOne(a);
        feedOne(b);
        feedOne(c);
        feedOne(d);
        feedOne(e);
        return tape.count();
    }

    public void end(int n) throws IllegalArgumentException {
        if (n < 0 || n > tape.count()) {
            throw new IllegalArgumentException();
        }
        tape.cut(n);
    }

    public int schema(int place) throws IndexOutOfBoundsException {
        if (place < 0 || place >= PLACES) {
            throw new IndexOutOfBoundsException();
        }
        faultPlace = text.parse(tape);
        if (faultPlace != NONE) {
            return NO_TEXT;
        }
        int fault = drafter.draft(text);
        faultPlace = drafter.wrongPlace();
        if (fault != 0) {
            return fault;
        }
        kept[place] = drafter.handOver(kept[place]);
        if (rowsPlace == place) {
            current.clear();
            rowsPlace = NONE;
        }
        tape.cut(0);
        return 0;
    }

    public int load(int place) throws IndexOutOfBoundsException, IllegalStateException {
        if (place < 0 || place >= PLACES) {
            throw new IndexOutOfBoundsException();
        }
        Schema schema = kept[place];
        if (schema == null) {
            throw new IllegalStateException();
        }
        int answer = looker.lookAtRows(tape, schema, spare);
        faultPlace = looker.wrongPlace();
        if (answer < 0) {
            return answer;
        }
        Rows before = current;
        current = spare;
        spare = before;
        rowsPlace = place;
        tape.cut(0);
        return answer;
    }

    public int place() {
        return faultPlace;
    }

    public int rows() {
        return current.count();
    }

    public int size(int what) throws IllegalArgumentException {
        if (what != ALL_ROWS && what != OUT) {
            throw new IllegalArgumentException();
        }
        return bytesOf(what).count();
    }

    public int letter(int i, int what) throws IndexOutOfBoundsException, IllegalArgumentException {
        if (what != ALL_ROWS && what != OUT) {
            throw new IllegalArgumentException();
        }
        Cells bytes = bytesOf(what);
        if (i < 0 || i >= bytes.count()) {
            throw new IndexOutOfBoundsException();
        }
        return bytes.at(i);
    }

    public int read(int place, int i) throws IndexOutOfBoundsException, IllegalStateException {
        if (place < 0 || place >= PLACES || i < 0 || i >= current.count()) {
            throw new IndexOutOfBoundsException();
        }
        Schema reader = kept[place];
        if (reader == null) {
            throw new IllegalStateException();
        }
        out.cut(0);
        teller.prepare(writer(), reader);
        int stop = teller.tell(current, i);
        if (stop != 0) {
            return stop;
        }
        out.addPart(teller.told(), 0, teller.told().count());
        return out.count();
    }

    public int all(int place) throws IndexOutOfBoundsException, IllegalStateException {
        if (place < 0 || place >= PLACES) {
            throw new IndexOutOfBoundsException();
        }
        Schema reader = kept[place];
        if (reader == null) {
            throw new IllegalStateException();
        }
        teller.prepare(writer(), reader);
        for (int i = 0; i < current.count(); i++) {
            if (teller.tell(current, i) != 0) {
                return i;
            }
        }
        return current.count();
    }

    public boolean fits(int w, int r) throws IndexOutOfBoundsException, IllegalStateException {
        if (w < 0 || w >= PLACES || r < 0 || r >= PLACES) {
            throw new IndexOutOfBoundsException();
        }
        Schema writer = kept[w];
        Schema reader = kept[r];
        if (writer == null || reader == null) {
            throw new IllegalStateException();
        }
        return fitter.fit(writer, reader);
    }

    private void feedOne(int number) {
        for (int shift = 24; shift >= 0; shift -= 8) {
            tape.add(number >>> shift & 255);
        }
    }

    private Cells bytesOf(int what) {
        return what == ALL_ROWS ? current.bytes() : out;
    }

    private Schema writer() {
        return rowsPlace >= 0 && rowsPlace < PLACES ? kept[rowsPlace] : null;
    }

    /**
     * A row of numbers with a count. All tables are such rows, so that no index is used untested.
     * A WORD in it is a length and as many letters behind it, known by the index of its length.
     */
    private static final class Cells {
        private final int[] cell;
        private int used;

        Cells(int room) {
            cell = new int[room < 0 ? 0 : room];
        }

        int count() {
            return used;
        }

        int at(int i) {
            return i >= 0 && i < cell.length ? cell[i] : 0;
        }

        /** What stands at i, or NONE where the row has ended. */
        int peek(int i) {
            return i >= 0 && i < used && i < cell.length ? cell[i] : NONE;
        }

        void put(int i, int value) {
            if (i >= 0 && i < cell.length) {
                cell[i] = value;
            }
        }

        /** Answers false when there is no room. */
        boolean add(int value) {
            if (used < 0 || used >= cell.length) {
                return false;
            }
            cell[used] = value;
            used++;
            return true;
        }

        void cut(int count) {
            if (count >= 0 && count <= cell.length) {
                used = count;
            }
        }

        boolean addPart(Cells other, int from, int to) {
            if (other == null || from < 0 || to < from || to > other.cell.length || to - from > cell.length - used) {
                return false;
            }
            System.arraycopy(other.cell, from, cell, used, to - from);
            used += to - from;
            return true;
        }

        /** Answers false when there is no room; perhaps some of it stands there then. */
        boolean addVarint(long value) {
            long rest = value << 1 ^ value >> 63;
            for (int k = 0; k < 10; k++) {
                boolean last = rest >>> 7 == 0;
                if (!add((int) (rest & 127) | (last ? 0 : 128))) {
                    return false;
                }
                if (last) {
                    return true;
                }
                rest = rest >>> 7;
            }
            return true;
        }

        /** Puts what stands from the middle on before what stands from the start on. */
        void rotate(int from, int middle) {
            reverse(from, middle);
            reverse(middle, used);
            reverse(from, used);
        }

        private void reverse(int from, int to) {
            for (int i = from, k = to - 1; i < k; i++, k--) {
                int one = at(i);
                put(i, at(k));
                put(k, one);
            }
        }

        boolean isWord(int i, Cells other, int k) {
            if (other == null || i < 0 || i >= cell.length || k < 0 || k >= other.cell.length) {
                return false;
            }
            int length = cell[i];
            if (length != other.cell[k] || length >= cell.length - i || length >= other.cell.length - k) {
                return false;
            }
            for (int n = 1; n <= length; n++) {
                if (cell[i + n] != other.cell[k + n]) {
                    return false;
                }
            }
            return true;
        }

        boolean says(int i, String text) {
            int length = text == null ? 0 : text.length();
            if (text == null || i < 0 || i >= cell.length || cell[i] != length || length >= cell.length - i) {
                return false;
            }
            for (int n = 0; n < length; n++) {
                if (cell[i + 1 + n] != text.charAt(n)) {
                    return false;
                }
            }
            return true;
        }
    }

    /** The value of a text, as a tree of numbered values; value 0 is the text's own. */
    private static final class Text {
        static final int OBJECT = 1, LIST = 2, STRING = 3, NUMBER = 4, TRUE = 5, FALSE = 6, NULL = 7;
        private static final int DEEPEST = 24;
        // Each value has two bytes at least, its own and one between, but for those of open brackets.
        private static final int VALUES = ROOM / 2 + DEEPEST + 1;

        private final Cells kind = new Cells(VALUES);
        private final Cells begin = new Cells(VALUES);
        private final Cells next = new Cells(VALUES);
        private final Cells first = new Cells(VALUES);
        private final Cells parts = new Cells(VALUES);
        private final Cells word = new Cells(VALUES);
        private final Cells key = new Cells(VALUES);
        private final long[] number = new long[VALUES];
        private final Cells letters = new Cells(ROOM);
        private Cells tape;
        private int values;
        private int pos;
        private int wrong;

        int kind(int v) {
            return kind.at(v);
        }

        int begin(int v) {
            return begin.at(v);
        }

        int first(int v) {
            return first.at(v);
        }

        int next(int v) {
            return next.at(v);
        }

        int parts(int v) {
            return parts.at(v);
        }

        long number(int v) {
            return v >= 0 && v < number.length ? number[v] : 0;
        }

        Cells letters() {
            return letters;
        }

        /** Where the word of a string stands in the letters. */
        int word(int v) {
            return word.at(v);
        }

        int length(int v) {
            return letters.at(word.at(v));
        }

        /** Where the word of a member's string stands in the letters. */
        int key(int v) {
            return key.at(v);
        }

        boolean isString(int v) {
            return v != NONE && kind.at(v) == STRING;
        }

        boolean says(int v, String what) {
            return letters.says(word.at(v), what);
        }

        int member(int v, String name) {
            int m = first.at(v);
            for (int turn = 0; turn < VALUES && m != NONE; turn++) {
                if (letters.says(key.at(m), name)) {
                    return m;
                }
                m = next.at(m);
            }
            return NONE;
        }

        /** The member whose string is a word that stands elsewhere, or NONE. */
        int memberNamed(int v, Cells names, int name) {
            int m = first.at(v);
            for (int turn = 0; turn < VALUES && m != NONE; turn++) {
                if (letters.isWord(key.at(m), names, name)) {
                    return m;
                }
                m = next.at(m);
            }
            return NONE;
        }

        /** Answers where the first fault is, or NONE. */
        int parse(Cells given) {
            if (given == null) {
                return 0;
            }
            tape = given;
            letters.cut(0);
            values = 0;
            pos = 0;
            wrong = NONE;
            skipBlanks();
            parseValue(0);
            skipBlanks();
            if (pos < tape.count()) {
                fail(pos);
            }
            return wrong;
        }

        private void fail(int place) {
            if (wrong == NONE) {
                wrong = place;
            }
        }

        private void skipBlanks() {
            for (int turn = 0; turn < ROOM; turn++) {
                int b = tape.peek(pos);
                if (b != 9 && b != 10 && b != 13 && b != 32) {
                    return;
                }
                pos++;
            }
        }

        private int parseValue(int depth) {
            int v = values;
            values++;
            begin.put(v, pos);
            next.put(v, NONE);
            first.put(v, NONE);
            parts.put(v, 0);
            int b = tape.peek(pos);
            if (b == '{') {
                kind.put(v, OBJECT);
                parseParts(v, '}', depth);
            } else if (b == '[') {
                kind.put(v, LIST);
                parseParts(v, ']', depth);
            } else if (b == '"') {
                kind.put(v, STRING);
                word.put(v, parseString());
            } else if (b == 't') {
                parseWord(v, TRUE, "true");
            } else if (b == 'f') {
                parseWord(v, FALSE, "false");
            } else if (b == 'n') {
                parseWord(v, NULL, "null");
            } else {
                kind.put(v, NUMBER);
                parseNumber(v);
            }
            return v;
        }

        private void parseParts(int v, int close, int depth) {
            if (depth >= DEEPEST) {
                fail(pos);
                return;
            }
            pos++;
            skipBlanks();
            if (tape.peek(pos) == close) {
                pos++;
                return;
            }
            int last = NONE;
            for (int turn = 0; turn < ROOM && wrong == NONE; turn++) {
                if (kind.at(v) == OBJECT) {
                    parseKey(v);
                }
                if (wrong != NONE) {
                    return;
                }
                last = link(v, last, parseValue(depth + 1));
                skipBlanks();
                int b = tape.peek(pos);
                if (b != ',' && b != close) {
                    fail(pos);
                    return;
                }
                pos++;
                if (b == close) {
                    return;
                }
                skipBlanks();
            }
        }

        private int link(int v, int last, int part) {
            if (last == NONE) {
                first.put(v, part);
            } else {
                next.put(last, part);
            }
            parts.put(v, parts.at(v) + 1);
            return part;
        }

        /** Reads a member's string and colon; the value that comes next gets the key. */
        private void parseKey(int v) {
            if (tape.peek(pos) != '"') {
                fail(pos);
                return;
            }
            int quote = pos;
            int name = parseString();
            if (memberNamed(v, letters, name) != NONE) {
                fail(quote);
            }
            key.put(values, name);
            skipBlanks();
            if (tape.peek(pos) != ':') {
                fail(pos);
                return;
            }
            pos++;
            skipBlanks();
        }

        private void parseWord(int v, int meant, String word) {
            kind.put(v, meant);
            for (int k = 0; k < word.length(); k++) {
                if (tape.peek(pos) != word.charAt(k)) {
                    fail(pos);
                    return;
                }
                pos++;
            }
        }

        private void parseNumber(int v) {
            int from = pos;
            boolean below = tape.peek(pos) == '-';
            if (below) {
                pos++;
            }
            if (!isDigit(tape.peek(pos))) {
                fail(pos);
                return;
            }
            // Summed up below 0, where there is one number more than above it.
            long bound = below ? Long.MIN_VALUE : -Long.MAX_VALUE;
            boolean inside = true;
            long sum = 0;
            int most = tape.peek(pos) == '0' ? 1 : ROOM;
            for (int turn = 0; turn < most && isDigit(tape.peek(pos)); turn++) {
                int digit = tape.peek(pos) - '0';
                inside = inside && sum >= (bound + digit) / 10;
                sum = inside ? sum * 10 - digit : 0;
                pos++;
            }
            if (!inside) {
                fail(from);
            }
            if (v >= 0 && v < number.length) {
                number[v] = below ? sum : -sum;
            }
        }

        private static boolean isDigit(int b) {
            return b >= '0' && b <= '9';
        }

        /** Answers where the word of the string stands. */
        private int parseString() {
            int start = letters.count();
            letters.add(0);
            pos++;
            for (int turn = 0; turn <= ROOM && wrong == NONE; turn++) {
                int b = tape.peek(pos);
                if (b == '"') {
                    pos++;
                    break;
                }
                if (b == '\\' && tape.peek(pos + 1) == 'u') {
                    parseFourDigits();
                } else if (b == '\\') {
                    parseEscape();
                } else if (b < 32 || b > 126) {
                    fail(pos);
                } else {
                    letters.add(b);
                    pos++;
                }
            }
            letters.put(start, letters.count() - start - 1);
            return start;
        }

        private void parseEscape() {
            pos++;
            int meant = escaped(tape.peek(pos));
            if (meant == NONE) {
                fail(pos);
                return;
            }
            letters.add(meant);
            pos++;
        }

        private static int escaped(int b) {
            switch (b) {
                case '"':
                case '\\':
                case '/':
                    return b;
                case 'b':
                    return 8;
                case 'f':
                    return 12;
                case 'n':
                    return 10;
                case 'r':
                    return 13;
                case 't':
                    return 9;
                default:
                    return NONE;
            }
        }

        private void parseFourDigits() {
            int from = pos;
            int sum = 0;
            pos += 2;
            for (int k = 0; k < 4; k++) {
                int digit = hexDigit(tape.peek(pos));
                if (digit == NONE) {
                    fail(pos);
                    return;
                }
                sum = sum * 16 + digit;
                pos++;
            }
            if (sum > 255) {
                fail(from);
            } else {
                letters.add(sum);
            }
        }

        private static int hexDigit(int b) {
            if (b >= '0' && b <= '9') {
                return b - '0';
            }
            if (b >= 'a' && b <= 'f') {
                return b - 'a' + 10;
            }
            if (b >= 'A' && b <= 'F') {
                return b - 'A' + 10;
            }
            return NONE;
        }
    }

    /** A schema as nodes; the six words are nodes 0 to 5 of every schema. */
    private static final class Schema {
        static final int NULL = 0, BOOLEAN = 1, INT = 2, LONG = 3, BYTES = 4, STRING = 5;
        static final int ARRAY = 6, MAP = 7, UNION = 8, FIXED = 9, ENUM = 10, RECORD = 11;
        static final int SIX = 6;
        static final int NODES = SIX + 128;
        // Branches, symbols and fields are values of lists of the text.
        static final int PARTS = ROOM / 2;

        private final Cells kind = new Cells(NODES);
        private final Cells name = new Cells(NODES);
        private final Cells detail = new Cells(NODES);
        private final Cells width = new Cells(NODES);
        private final Cells firstPart = new Cells(NODES);
        private final Cells parts = new Cells(NODES);
        private final Cells partNode = new Cells(PARTS);
        private final Cells partName = new Cells(PARTS);
        private final Cells defaultStart = new Cells(PARTS);
        private final Cells defaultEnd = new Cells(PARTS);
        private final Cells names = new Cells(ROOM);
        // A default has at most twice as many bytes as its text.
        private final Cells defaults = new Cells(2 * ROOM);
        private int root;

        void clear() {
            kind.cut(0);
            for (int six = 0; six < SIX; six++) {
                kind.add(six);
                width.put(six, NONE);
            }
            width.put(NULL, 0);
            width.put(BOOLEAN, 1);
            partNode.cut(0);
            names.cut(0);
            defaults.cut(0);
            root = NULL;
        }

        int root() {
            return root;
        }

        void setRoot(int node) {
            root = node;
        }

        int addNode(int nodeKind) {
            int s = kind.count();
            kind.add(nodeKind);
            name.put(s, NONE);
            detail.put(s, NONE);
            width.put(s, NONE);
            firstPart.put(s, 0);
            parts.put(s, 0);
            return s;
        }

        int kind(int s) {
            return kind.at(s);
        }

        void setName(int s, int n) {
            name.put(s, n);
        }

        /** The node of an array's or a map's items. */
        int item(int s) {
            return detail.at(s);
        }

        int fixedSize(int s) {
            return detail.at(s);
        }

        void setFixedSize(int s, int size) {
            detail.put(s, size);
            width.put(s, size);
        }

        /** How many bytes each datum of a node has; NONE if not all have as many, or more than a row can have. */
        int width(int s) {
            return width.at(s);
        }

        /** Behind its fields: one that lies in itself without an end finds no width of its own yet, and gets none. */
        void measureRecord(int s) {
            int sum = 0;
            for (int k = 0; k < parts.at(s); k++) {
                int one = width.at(partNode.at(firstPart.at(s) + k));
                if (one == NONE || sum + one > ROOM) {
                    return;
                }
                sum += one;
            }
            width.put(s, sum);
        }

        /** The symbol that stands for those that an enum does not have, or NONE. */
        int fallback(int s) {
            return detail.at(s);
        }

        void setDetail(int s, int value) {
            detail.put(s, value);
        }

        /** Parts get their numbers before they are looked at, so that those of a node stand together. */
        void addParts(int s, int count) {
            firstPart.put(s, partNode.count());
            parts.put(s, count);
            for (int k = 0; k < count; k++) {
                int p = partNode.count();
                partNode.add(NULL);
                partName.put(p, NONE);
                defaultStart.put(p, NONE);
                defaultEnd.put(p, NONE);
            }
        }

        int parts(int s) {
            return parts.at(s);
        }

        int allParts() {
            return partNode.count();
        }

        int part(int s, int k) {
            return firstPart.at(s) + k;
        }

        int partNode(int p) {
            return partNode.at(p);
        }

        void setPartNode(int p, int node) {
            partNode.put(p, node);
        }

        int partName(int p) {
            return partName.at(p);
        }

        void setPartName(int p, int n) {
            partName.put(p, n);
        }

        int branch(int s, int k) {
            return k >= 0 && k < parts.at(s) ? partNode.at(firstPart.at(s) + k) : NULL;
        }

        Cells defaults() {
            return defaults;
        }

        boolean hasDefault(int p) {
            return defaultStart.at(p) != NONE;
        }

        int defaultStart(int p) {
            return defaultStart.at(p);
        }

        int defaultEnd(int p) {
            return defaultEnd.at(p);
        }

        void setDefault(int p, int start, int end) {
            defaultStart.put(p, start);
            defaultEnd.put(p, end);
        }

        /** Takes over a word and answers where it stands in the names. */
        int addName(Cells letters, int word) {
            int start = names.count();
            names.addPart(letters, word, word + 1 + letters.at(word));
            return start;
        }

        Cells names() {
            return names;
        }

        /** Which part of a node has the name that a word tells, or NONE. */
        int partNamed(int s, Cells letters, int word) {
            int from = firstPart.at(s);
            for (int k = 0; k < parts.at(s); k++) {
                if (names.isWord(partName.at(from + k), letters, word)) {
                    return k;
                }
            }
            return NONE;
        }

        int nodeNamed(Cells letters, int word) {
            for (int s = SIX; s < kind.count(); s++) {
                if (names.isWord(name.at(s), letters, word)) {
                    return s;
                }
            }
            return NONE;
        }

        /** Whether two match of which none is a union, array or map. */
        static boolean matchPlainly(Schema writer, int w, Schema reader, int r) {
            int from = writer.kind.at(w);
            int to = reader.kind.at(r);
            if (from < SIX) {
                return from == to || from == INT && to == LONG
                        || from == BYTES && to == STRING || from == STRING && to == BYTES;
            }
            if (from != to || from != FIXED && from != ENUM && from != RECORD) {
                return false;
            }
            return writer.names.isWord(writer.name.at(w), reader.names, reader.name.at(r))
                    && (from != FIXED || writer.detail.at(w) == reader.detail.at(r));
        }

        static boolean match(Schema writer, int w, Schema reader, int r) {
            int from = w;
            int to = r;
            for (int turn = 0; turn < NODES; turn++) {
                int k = writer.kind(from);
                if (k == UNION || reader.kind(to) == UNION) {
                    return true;
                }
                if (k != ARRAY && k != MAP || reader.kind(to) != k) {
                    return matchPlainly(writer, from, reader, to);
                }
                from = writer.item(from);
                to = reader.item(to);
            }
            return false;
        }

        /** The number of the first branch of a union that matches, or NONE. */
        static int firstMatch(Schema writer, int w, Schema reader, int union) {
            for (int k = 0; k < reader.parts(union); k++) {
                if (match(writer, w, reader, reader.branch(union, k))) {
                    return k;
                }
            }
            return NONE;
        }
    }

    /** Looks at a text as a schema and makes it. */
    private static final class Drafter {
        private static final int MOST = 128, DEEPEST = 16;
        private static final int LONGEST_NAME = 32, MOST_BRANCHES = 16, MOST_SYMBOLS = 32, MOST_FIELDS = 32;
        private static final int BIGGEST_FIXED = 64;

        private final Filler filler = new Filler();
        private final Cells lateFields = new Cells(MOST);
        private final Cells lateValues = new Cells(MOST);
        private Schema plan = new Schema();
        private Text text;
        private int lookedAt;
        private int fault;
        private int wrong;

        /** Answers the fault, or 0. */
        int draft(Text given) {
            if (given == null) {
                return NO_TEXT;
            }
            text = given;
            plan.clear();
            lateFields.cut(0);
            lateValues.cut(0);
            lookedAt = 0;
            fault = 0;
            wrong = NONE;
            plan.setRoot(look(0, 0, false));
            for (int k = 0; k < lateFields.count() && fault == 0; k++) {
                wrong = filler.fill(text, lateValues.at(k), plan, lateFields.at(k));
                fault = wrong == NONE ? 0 : 12;
            }
            return fault;
        }

        int wrongPlace() {
            return wrong;
        }

        /** Gives what was drafted last, and takes what it is put in the place of to draft in next. */
        Schema handOver(Schema before) {
            Schema made = plan;
            plan = before == null ? new Schema() : before;
            return made;
        }

        /** Faults end all: what is answered then is a node that nobody uses. */
        private int fail(int number, int v) {
            if (fault == 0) {
                fault = number;
                wrong = text.begin(v);
            }
            return Schema.NULL;
        }

        private int look(int v, int depth, boolean isBranch) {
            if (lookedAt >= MOST) {
                return fail(13, v);
            }
            if (depth >= DEEPEST) {
                return fail(14, v);
            }
            lookedAt++;
            int kind = text.kind(v);
            if (kind == Text.STRING) {
                return known(v);
            }
            if (kind == Text.LIST) {
                return isBranch ? fail(4, v) : lookAtUnion(v, depth);
            }
            return kind == Text.OBJECT ? lookAtObject(v, depth) : fail(2, v);
        }

        /** The node that a string stands for. */
        private int known(int v) {
            int six = oneOfSix(v);
            if (six != NONE) {
                return six;
            }
            int s = defined(v);
            return s == NONE ? fail(3, v) : s;
        }

        private int oneOfSix(int v) {
            if (text.says(v, "null")) {
                return Schema.NULL;
            }
            if (text.says(v, "boolean")) {
                return Schema.BOOLEAN;
            }
            if (text.says(v, "int")) {
                return Schema.INT;
            }
            if (text.says(v, "long")) {
                return Schema.LONG;
            }
            if (text.says(v, "bytes")) {
                return Schema.BYTES;
            }
            return text.says(v, "string") ? Schema.STRING : NONE;
        }

        private int compound(int v) {
            if (text.says(v, "array")) {
                return Schema.ARRAY;
            }
            if (text.says(v, "map")) {
                return Schema.MAP;
            }
            if (text.says(v, "fixed")) {
                return Schema.FIXED;
            }
            if (text.says(v, "enum")) {
                return Schema.ENUM;
            }
            return text.says(v, "record") ? Schema.RECORD : NONE;
        }

        private int defined(int v) {
            return plan.nodeNamed(text.letters(), text.word(v));
        }

        private int lookAtUnion(int v, int depth) {
            int count = text.parts(v);
            if (count < 1 || count > MOST_BRANCHES) {
                return fail(5, v);
            }
            int s = plan.addNode(Schema.UNION);
            plan.addParts(s, count);
            int branch = text.first(v);
            for (int k = 0; k < count; k++) {
                int node = look(branch, depth + 1, true);
                if (fault == 0 && hasBranchLike(s, k, node)) {
                    fail(6, branch);
                }
                if (fault != 0) {
                    return s;
                }
                plan.setPartNode(plan.part(s, k), node);
                branch = text.next(branch);
            }
            return s;
        }

        private boolean hasBranchLike(int union, int before, int node) {
            int kind = plan.kind(node);
            boolean byKind = kind == Schema.ARRAY || kind == Schema.MAP;
            for (int k = 0; k < before; k++) {
                int other = plan.branch(union, k);
                if (other == node || byKind && plan.kind(other) == kind) {
                    return true;
                }
            }
            return false;
        }

        private int lookAtObject(int v, int depth) {
            int t = text.member(v, "type");
            if (!text.isString(t)) {
                return fail(7, v);
            }
            switch (compound(t)) {
                case Schema.ARRAY:
                    return lookAtItems(v, Schema.ARRAY, text.member(v, "items"), depth);
                case Schema.MAP:
                    return lookAtItems(v, Schema.MAP, text.member(v, "values"), depth);
                case Schema.FIXED:
                    return lookAtFixed(v);
                case Schema.ENUM:
                    return lookAtEnum(v);
                case Schema.RECORD:
                    return lookAtRecord(v, depth);
                default:
                    return known(t);
            }
        }

        private int lookAtItems(int v, int kind, int items, int depth) {
            if (items == NONE) {
                return fail(8, v);
            }
            int s = plan.addNode(kind);
            plan.setDetail(s, look(items, depth + 1, false));
            return s;
        }

        /** Defines the name of a fixed, an enum or a record. */
        private int define(int v, int kind) {
            int n = text.member(v, "name");
            if (!text.isString(n)) {
                return fail(8, v);
            }
            if (!isName(n) || oneOfSix(n) != NONE || compound(n) != NONE || defined(n) != NONE) {
                return fail(9, n);
            }
            int s = plan.addNode(kind);
            plan.setName(s, plan.addName(text.letters(), text.word(n)));
            return s;
        }

        private boolean isName(int v) {
            int length = text.length(v);
            if (length < 1 || length > LONGEST_NAME) {
                return false;
            }
            for (int k = 0; k < length; k++) {
                int b = text.letters().at(text.word(v) + 1 + k);
                boolean digit = b >= '0' && b <= '9';
                boolean letter = b >= 'a' && b <= 'z' || b >= 'A' && b <= 'Z' || b == '_';
                if (!letter && !(digit && k > 0)) {
                    return false;
                }
            }
            return true;
        }

        private int lookAtFixed(int v) {
            int s = define(v, Schema.FIXED);
            if (fault != 0) {
                return s;
            }
            int m = text.member(v, "size");
            if (m == NONE) {
                return fail(8, v);
            }
            if (text.kind(m) != Text.NUMBER || text.number(m) < 0 || text.number(m) > BIGGEST_FIXED) {
                return fail(10, m);
            }
            plan.setFixedSize(s, (int) text.number(m));
            return s;
        }

        private int lookAtEnum(int v) {
            int s = define(v, Schema.ENUM);
            if (fault != 0) {
                return s;
            }
            int list = text.member(v, "symbols");
            if (list == NONE) {
                return fail(8, v);
            }
            int count = text.parts(list);
            if (text.kind(list) != Text.LIST || count < 1 || count > MOST_SYMBOLS) {
                return fail(11, list);
            }
            plan.addParts(s, count);
            int symbol = text.first(list);
            for (int k = 0; k < count; k++) {
                if (!text.isString(symbol) || !isName(symbol) || partSaid(s, symbol) != NONE) {
                    return fail(11, symbol);
                }
                plan.setPartName(plan.part(s, k), plan.addName(text.letters(), text.word(symbol)));
                symbol = text.next(symbol);
            }
            return lookAtFallback(v, s);
        }

        private int lookAtFallback(int v, int s) {
            int m = text.member(v, "default");
            if (m == NONE) {
                return s;
            }
            int symbol = text.isString(m) ? partSaid(s, m) : NONE;
            if (symbol == NONE) {
                return fail(12, m);
            }
            plan.setDetail(s, symbol);
            return s;
        }

        /** Which symbol or field has the name that a string of the text says, or NONE. */
        private int partSaid(int s, int v) {
            return plan.partNamed(s, text.letters(), text.word(v));
        }

        private int lookAtRecord(int v, int depth) {
            int s = define(v, Schema.RECORD);
            if (fault != 0) {
                return s;
            }
            int list = text.member(v, "fields");
            if (list == NONE) {
                return fail(8, v);
            }
            int count = text.parts(list);
            if (text.kind(list) != Text.LIST || count > MOST_FIELDS) {
                return fail(11, list);
            }
            plan.addParts(s, count);
            int field = text.first(list);
            for (int k = 0; k < count && fault == 0; k++) {
                lookAtField(s, plan.part(s, k), field, depth);
                field = text.next(field);
            }
            plan.measureRecord(s);
            return s;
        }

        private void lookAtField(int s, int p, int v, int depth) {
            if (text.kind(v) != Text.OBJECT) {
                fail(11, v);
                return;
            }
            int n = text.member(v, "name");
            if (!text.isString(n)) {
                fail(8, v);
                return;
            }
            if (!isName(n) || partSaid(s, n) != NONE) {
                fail(9, n);
                return;
            }
            plan.setPartName(p, plan.addName(text.letters(), text.word(n)));
            int type = text.member(v, "type");
            if (type == NONE) {
                fail(8, v);
                return;
            }
            plan.setPartNode(p, look(type, depth + 1, false));
            int value = text.member(v, "default");
            if (value != NONE) {
                lateFields.add(p);
                lateValues.add(value);
            }
        }
    }

    /** Makes the default of a field into bytes, if it fits. */
    private static final class Filler {
        private static final int DEEPEST = 24;

        private Text text;
        private Schema plan;
        private int wrong;

        /** Answers where the first value is that does not fit, or NONE. */
        int fill(Text given, int v, Schema schema, int field) {
            wrong = NONE;
            if (given == null || schema == null) {
                return wrong;
            }
            text = given;
            plan = schema;
            int start = plan.defaults().count();
            put(v, plan.partNode(field), 0);
            plan.setDefault(field, start, plan.defaults().count());
            return wrong;
        }

        private void misfit(int v) {
            if (wrong == NONE) {
                wrong = text.begin(v);
            }
        }

        private void put(int v, int node, int depth) {
            int s = node;
            if (plan.kind(s) == Schema.UNION) {
                plan.defaults().addVarint(0);
                s = plan.branch(s, 0);
            }
            int kind = plan.kind(s);
            if (depth > DEEPEST) {
                misfit(v);
            } else if (kind == Schema.ARRAY) {
                putItems(v, s, Text.LIST, depth);
            } else if (kind == Schema.MAP) {
                putItems(v, s, Text.OBJECT, depth);
            } else if (kind == Schema.RECORD) {
                putFields(v, s, depth);
            } else if (suits(v, s)) {
                putPlain(v, s);
            } else {
                misfit(v);
            }
        }

        private void putItems(int v, int s, int wanted, int depth) {
            if (text.kind(v) != wanted) {
                misfit(v);
                return;
            }
            int count = text.parts(v);
            if (count > 0) {
                plan.defaults().addVarint(count);
            }
            int item = text.first(v);
            for (int k = 0; k < count && wrong == NONE; k++) {
                if (wanted == Text.OBJECT) {
                    putString(text.key(item));
                }
                put(item, plan.item(s), depth + 1);
                item = text.next(item);
            }
            plan.defaults().addVarint(0);
        }

        private void putFields(int v, int s, int depth) {
            if (text.kind(v) != Text.OBJECT) {
                misfit(v);
                return;
            }
            for (int k = 0; k < plan.parts(s) && wrong == NONE; k++) {
                int field = plan.part(s, k);
                int value = text.memberNamed(v, plan.names(), plan.partName(field));
                if (value == NONE) {
                    misfit(v);
                } else {
                    put(value, plan.partNode(field), depth + 1);
                }
            }
        }

        private void putString(int word) {
            plan.defaults().addVarint(text.letters().at(word));
            putLetters(word);
        }

        private void putLetters(int word) {
            plan.defaults().addPart(text.letters(), word + 1, word + 1 + text.letters().at(word));
        }

        /** Whether a value fits a schema that has no others within it. */
        private boolean suits(int v, int s) {
            int is = text.kind(v);
            switch (plan.kind(s)) {
                case Schema.NULL:
                    return is == Text.NULL;
                case Schema.BOOLEAN:
                    return is == Text.TRUE || is == Text.FALSE;
                case Schema.INT:
                    return is == Text.NUMBER && text.number(v) == (int) text.number(v);
                case Schema.LONG:
                    return is == Text.NUMBER;
                case Schema.BYTES:
                case Schema.STRING:
                    return is == Text.STRING;
                case Schema.FIXED:
                    return is == Text.STRING && text.length(v) == plan.fixedSize(s);
                case Schema.ENUM:
                    return is == Text.STRING && plan.partNamed(s, text.letters(), text.word(v)) != NONE;
                default:
                    return false;
            }
        }

        private void putPlain(int v, int s) {
            Cells bytes = plan.defaults();
            switch (plan.kind(s)) {
                case Schema.BOOLEAN:
                    bytes.add(text.kind(v) == Text.TRUE ? 1 : 0);
                    return;
                case Schema.INT:
                case Schema.LONG:
                    bytes.addVarint(text.number(v));
                    return;
                case Schema.BYTES:
                case Schema.STRING:
                    putString(text.word(v));
                    return;
                case Schema.FIXED:
                    putLetters(text.word(v));
                    return;
                case Schema.ENUM:
                    bytes.addVarint(plan.partNamed(s, text.letters(), text.word(v)));
                    return;
                default:
            }
        }
    }

    /** Rows in normal form, one behind the other. */
    private static final class Rows {
        private final Cells bytes = new Cells(ROOM);
        // Each row has a byte at least.
        private final Cells starts = new Cells(ROOM);

        void clear() {
            bytes.cut(0);
            starts.cut(0);
        }

        void open() {
            starts.add(bytes.count());
        }

        int count() {
            return starts.count();
        }

        int start(int i) {
            return starts.at(i);
        }

        Cells bytes() {
            return bytes;
        }
    }

    /** Looks at bytes as rows of a schema, and makes them normal on the way. */
    private static final class Looker {
        private static final int DEEPEST = 32, MOST_DATA = 4000, MOST_ITEMS = 2000;

        private Cells tape;
        private Schema schema;
        private Cells made;
        private int pos;
        private int data;
        private int items;
        private int fault;
        private int wrong = NONE;

        /** Answers how many rows, or EMPTY, or minus the fault. */
        int lookAtRows(Cells given, Schema wanted, Rows rows) {
            wrong = NONE;
            fault = 0;
            pos = 0;
            if (given == null || wanted == null || rows == null || given.count() == 0) {
                return EMPTY;
            }
            tape = given;
            schema = wanted;
            made = rows.bytes();
            rows.clear();
            for (int turn = 0; turn < ROOM && pos < tape.count(); turn++) {
                int from = pos;
                data = 0;
                items = 0;
                rows.open();
                look(schema.root(), 0);
                if (fault != 0) {
                    return -fault;
                }
                if (pos == from) {
                    return EMPTY;
                }
            }
            return rows.count();
        }

        int wrongPlace() {
            return wrong;
        }

        private void fail(int number, int place) {
            if (fault == 0) {
                fault = number;
                wrong = place;
            }
        }

        private void look(int s, int depth) {
            if (depth >= DEEPEST) {
                fail(7, pos);
                return;
            }
            if (data >= MOST_DATA) {
                fail(8, pos);
                return;
            }
            data++;
            switch (schema.kind(s)) {
                case Schema.BOOLEAN:
                    lookAtBoolean();
                    return;
                case Schema.INT:
                case Schema.LONG:
                    lookAtNumber(schema.kind(s) == Schema.INT);
                    return;
                case Schema.BYTES:
                case Schema.STRING:
                    lookAtString();
                    return;
                case Schema.FIXED:
                    takeBytes(schema.fixedSize(s));
                    return;
                case Schema.ENUM:
                    lookAtChoice(s, 5);
                    return;
                case Schema.UNION:
                    lookAtUnion(s, depth);
                    return;
                case Schema.ARRAY:
                case Schema.MAP:
                    lookAtBlocks(s, depth);
                    return;
                case Schema.RECORD:
                    lookAtFields(s, depth);
                    return;
                default:
            }
        }

        private void lookAtBoolean() {
            if (pos >= tape.count()) {
                fail(1, tape.count());
            } else if (tape.at(pos) > 1) {
                fail(3, pos);
            } else {
                made.add(tape.at(pos));
                pos++;
            }
        }

        private long varint() {
            int from = pos;
            long sum = 0;
            for (int k = 0; k < 10; k++) {
                if (pos >= tape.count()) {
                    fail(1, tape.count());
                    return 0;
                }
                int b = tape.at(pos);
                if (k == 9 && b > 1) {
                    fail(2, from);
                    return 0;
                }
                pos++;
                sum |= (long) (b & 127) << 7 * k;
                if (b < 128) {
                    return sum >>> 1 ^ -(sum & 1);
                }
            }
            return 0;
        }

        private void lookAtNumber(boolean small) {
            int from = pos;
            long n = varint();
            if (small && n != (int) n) {
                fail(2, from);
            }
            if (fault == 0) {
                made.addVarint(n);
            }
        }

        private void lookAtString() {
            int from = pos;
            long length = varint();
            if (length < 0) {
                fail(6, from);
            }
            if (fault == 0) {
                made.addVarint(length);
                takeBytes(length);
            }
        }

        private void takeBytes(long count) {
            if (count > tape.count() - pos) {
                fail(1, tape.count());
                return;
            }
            made.addPart(tape, pos, pos + (int) count);
            pos += (int) count;
        }

        /** The number of a branch or a symbol. */
        private int lookAtChoice(int s, int faultOfNone) {
            int from = pos;
            long choice = varint();
            if (choice < 0 || choice >= schema.parts(s)) {
                fail(faultOfNone, from);
            }
            if (fault != 0) {
                return NONE;
            }
            made.addVarint(choice);
            return (int) choice;
        }

        private void lookAtUnion(int s, int depth) {
            int choice = lookAtChoice(s, 4);
            if (fault == 0) {
                look(schema.branch(s, choice), depth + 1);
            }
        }

        private void lookAtFields(int s, int depth) {
            for (int k = 0; k < schema.parts(s) && fault == 0; k++) {
                look(schema.partNode(schema.part(s, k)), depth + 1);
            }
        }

        private void lookAtBlocks(int s, int depth) {
            int head = made.count();
            int before = 0;
            for (int turn = 0; turn <= ROOM; turn++) {
                int from = pos;
                long n = varint();
                if (n > MOST_ITEMS - items || n < items - MOST_ITEMS) {
                    fail(6, from);
                }
                if (fault != 0) {
                    return;
                }
                if (n == 0) {
                    break;
                }
                int count = (int) Math.abs(n);
                items += count;
                before += count;
                if (n > 0) {
                    lookAtItems(s, count, depth);
                } else {
                    lookAtMeasuredItems(s, count, depth);
                }
            }
            int behind = made.count();
            if (before > 0) {
                made.addVarint(before);
                made.rotate(head, behind);
            }
            made.addVarint(0);
        }

        private void lookAtMeasuredItems(int s, int count, int depth) {
            int from = pos;
            long told = varint();
            int begin = pos;
            lookAtItems(s, count, depth);
            if (pos - begin != told) {
                fail(6, from);
            }
        }

        private void lookAtItems(int s, int count, int depth) {
            for (int k = 0; k < count && fault == 0; k++) {
                if (schema.kind(s) == Schema.MAP) {
                    lookAtString();
                }
                if (fault == 0) {
                    look(schema.item(s), depth + 1);
                }
            }
        }
    }

    /** Tells a normal row of one schema as another schema. */
    private static final class Teller {
        private static final int LEVELS = 33, FIELDS = 32, MOST_ITEMS = 2000;
        private static final int UNKNOWN = -2;

        private final Cells told = new Cells(ROOM);
        // Which field of the writer's record each field of the reader is told from, or NONE: it is always the
        // same, as just one record of the writer can have the name of the reader's.
        private final Cells origins = new Cells(Schema.PARTS);
        // Where the fields of the records begin that are being told, a stretch for each level.
        private final Cells begins = new Cells(LEVELS * (FIELDS + 1));
        // Where a row that is told has the writer's records of no bytes, by their nodes, and which telling that was.
        private final Cells toldIn = new Cells(Schema.NODES);
        private final Cells toldFrom = new Cells(Schema.NODES);
        private final Cells toldTo = new Cells(Schema.NODES);
        private Cells bytes;
        private Schema writer;
        private Schema reader;
        private int telling;
        private int pos;
        private int stop;

        /** Says by which schemas rows are told from now on. */
        void prepare(Schema from, Schema to) {
            writer = from;
            reader = to;
            int count = to == null ? 0 : to.allParts();
            for (int field = 0; field < count; field++) {
                origins.put(field, UNKNOWN);
            }
        }

        /** Answers 0, UNRESOLVED or FULL. */
        int tell(Rows rows, int i) {
            told.cut(0);
            telling++;
            stop = 0;
            if (rows == null || writer == null || reader == null) {
                return UNRESOLVED;
            }
            bytes = rows.bytes();
            pos = rows.start(i);
            tellDatum(writer.root(), reader.root(), 0);
            return stop;
        }

        Cells told() {
            return told;
        }

        private void halt(int why) {
            if (stop == 0) {
                stop = why;
            }
        }

        private void put(long n) {
            if (stop == 0 && !told.addVarint(n)) {
                halt(FULL);
            }
        }

        private void putPart(Cells from, int begin, int end) {
            if (stop == 0 && !told.addPart(from, begin, end)) {
                halt(FULL);
            }
        }

        private long varint() {
            long sum = 0;
            for (int k = 0; k < 10; k++) {
                int b = bytes.at(pos);
                pos++;
                sum |= (long) (b & 127) << 7 * k;
                if (b < 128) {
                    break;
                }
            }
            return sum >>> 1 ^ -(sum & 1);
        }

        private void tellDatum(int w, int r, int depth) {
            if (depth >= LEVELS) {
                halt(UNRESOLVED);
                return;
            }
            if (writer.kind(w) == Schema.UNION) {
                tellDatum(writer.branch(w, (int) varint()), r, depth + 1);
                return;
            }
            if (reader.kind(r) != Schema.UNION) {
                tellPlain(w, r, depth);
                return;
            }
            int choice = Schema.firstMatch(writer, w, reader, r);
            if (choice == NONE) {
                halt(UNRESOLVED);
                return;
            }
            put(choice);
            if (stop == 0) {
                tellPlain(w, reader.branch(r, choice), depth);
            }
        }

        /** Neither of the two is a union. */
        private void tellPlain(int w, int r, int depth) {
            int kind = writer.kind(w);
            if (kind == Schema.ARRAY || kind == Schema.MAP) {
                if (reader.kind(r) == kind) {
                    tellItems(w, r, depth);
                } else {
                    halt(UNRESOLVED);
                }
            } else if (!Schema.matchPlainly(writer, w, reader, r)) {
                halt(UNRESOLVED);
            } else if (kind == Schema.RECORD) {
                tellRecord(w, r, depth);
            } else if (kind == Schema.ENUM) {
                tellSymbol(w, r);
            } else {
                int begin = pos;
                skip(w, depth);
                putPart(bytes, begin, pos);
            }
        }

        private void tellSymbol(int w, int r) {
            int symbol = reader.partNamed(r, writer.names(), writer.partName(writer.part(w, (int) varint())));
            if (symbol == NONE) {
                symbol = reader.fallback(r);
            }
            if (symbol == NONE) {
                halt(UNRESOLVED);
            } else {
                put(symbol);
            }
        }

        private void tellItems(int w, int r, int depth) {
            long count = varint();
            put(count);
            if (count == 0) {
                return;
            }
            for (int k = 0; k < count && k < MOST_ITEMS && stop == 0; k++) {
                if (writer.kind(w) == Schema.MAP) {
                    int begin = pos;
                    skip(Schema.STRING, depth);
                    putPart(bytes, begin, pos);
                }
                if (stop == 0) {
                    tellDatum(writer.item(w), reader.item(r), depth + 1);
                }
            }
            if (stop == 0) {
                put(varint());
            }
        }

        /** One of no bytes is the same each time, and a row may have thousands of them. */
        private void tellRecord(int w, int r, int depth) {
            if (writer.width(w) != 0) {
                tellFields(w, r, depth);
            } else if (toldIn.at(w) == telling) {
                putPart(told, toldFrom.at(w), toldTo.at(w));
            } else {
                int from = told.count();
                tellFields(w, r, depth);
                toldIn.put(w, telling);
                toldFrom.put(w, from);
                toldTo.put(w, told.count());
            }
        }

        private void tellFields(int w, int r, int depth) {
            int base = depth * (FIELDS + 1);
            // How many fields of the writer have a beginning that is known, behind the first.
            int known = 0;
            begins.put(base, pos);
            for (int k = 0; k < reader.parts(r) && stop == 0; k++) {
                int field = reader.part(r, k);
                int own = origin(w, field);
                if (own == NONE) {
                    tellDefault(field);
                } else {
                    known = skipFields(w, known, own, depth);
                    pos = begins.at(base + own);
                    tellDatum(writer.partNode(writer.part(w, own)), reader.partNode(field), depth + 1);
                    if (known == own) {
                        known++;
                        begins.put(base + known, pos);
                    }
                }
            }
            // What was not told to its end has left the place somewhere: what is skipped from there may never end.
            if (stop != 0) {
                return;
            }
            skipFields(w, known, writer.parts(w), depth);
            pos = begins.at(base + writer.parts(w));
        }

        private int origin(int w, int field) {
            int own = origins.at(field);
            if (own == UNKNOWN) {
                own = writer.partNamed(w, reader.names(), reader.partName(field));
                origins.put(field, own);
            }
            return own;
        }

        /** Finds where the fields up to one begin; answers how many are known then. */
        private int skipFields(int w, int known, int upTo, int depth) {
            int base = depth * (FIELDS + 1);
            for (int k = known; k < upTo; k++) {
                pos = begins.at(base + k);
                skip(writer.partNode(writer.part(w, k)), depth + 1);
                begins.put(base + k + 1, pos);
            }
            return Math.max(known, upTo);
        }

        private void tellDefault(int field) {
            if (reader.hasDefault(field)) {
                putPart(reader.defaults(), reader.defaultStart(field), reader.defaultEnd(field));
            } else {
                halt(UNRESOLVED);
            }
        }

        /** Only from where a datum begins, so that no more are skipped than load has looked at. */
        private void skip(int s, int depth) {
            if (writer.width(s) != NONE) {
                pos += writer.width(s);
                return;
            }
            if (depth >= LEVELS) {
                return;
            }
            switch (writer.kind(s)) {
                case Schema.INT:
                case Schema.LONG:
                case Schema.ENUM:
                    varint();
                    return;
                case Schema.BYTES:
                case Schema.STRING:
                    // In two steps, as the place is one behind the varint.
                    int length = (int) varint();
                    pos += length;
                    return;
                case Schema.UNION:
                    skip(writer.branch(s, (int) varint()), depth + 1);
                    return;
                case Schema.ARRAY:
                case Schema.MAP:
                    skipItems(s, depth);
                    return;
                case Schema.RECORD:
                    for (int k = 0; k < writer.parts(s); k++) {
                        skip(writer.partNode(writer.part(s, k)), depth + 1);
                    }
                    return;
                default:
            }
        }

        private void skipItems(int s, int depth) {
            long count = varint();
            if (count == 0) {
                return;
            }
            for (int k = 0; k < count && k < MOST_ITEMS; k++) {
                if (writer.kind(s) == Schema.MAP) {
                    skip(Schema.STRING, depth);
                }
                skip(writer.item(s), depth + 1);
            }
            varint();
        }
    }

    /** Asks whether a schema fits another one: a pair of nodes after the other, each pair once. */
    private static final class Fitter {
        private static final int PAIRS = Schema.NODES * Schema.NODES;

        // The number of the asking in which a pair was seen last, so that nothing need be cleared.
        private final Cells seen = new Cells(PAIRS);
        private final Cells open = new Cells(PAIRS);
        private Schema writer;
        private Schema reader;
        private int asking;

        boolean fit(Schema from, Schema to) {
            if (from == null || to == null) {
                return false;
            }
            writer = from;
            reader = to;
            asking++;
            open.cut(0);
            ask(writer.root(), reader.root());
            for (int turn = 0; turn < PAIRS && open.count() > 0; turn++) {
                int pair = open.at(open.count() - 1);
                open.cut(open.count() - 1);
                if (!fitBySelves(pair / Schema.NODES, pair % Schema.NODES)) {
                    return false;
                }
            }
            return true;
        }

        private void ask(int w, int r) {
            int pair = w * Schema.NODES + r;
            if (seen.at(pair) != asking) {
                seen.put(pair, asking);
                open.add(pair);
            }
        }

        /** Whether two fit as far as they alone tell; what lies in them is asked for later. */
        private boolean fitBySelves(int w, int r) {
            int kind = writer.kind(w);
            if (kind == Schema.UNION) {
                for (int k = 0; k < writer.parts(w); k++) {
                    ask(writer.branch(w, k), r);
                }
                return true;
            }
            if (reader.kind(r) == Schema.UNION) {
                int choice = Schema.firstMatch(writer, w, reader, r);
                if (choice != NONE) {
                    ask(w, reader.branch(r, choice));
                }
                return choice != NONE;
            }
            if (kind == Schema.ARRAY || kind == Schema.MAP) {
                if (reader.kind(r) == kind) {
                    ask(writer.item(w), reader.item(r));
                }
                return reader.kind(r) == kind;
            }
            if (!Schema.matchPlainly(writer, w, reader, r)) {
                return false;
            }
            if (kind == Schema.ENUM) {
                return reader.fallback(r) != NONE || hasAllSymbols(w, r);
            }
            return kind != Schema.RECORD || fitFields(w, r);
        }

        private boolean hasAllSymbols(int w, int r) {
            for (int k = 0; k < writer.parts(w); k++) {
                if (reader.partNamed(r, writer.names(), writer.partName(writer.part(w, k))) == NONE) {
                    return false;
                }
            }
            return true;
        }

        private boolean fitFields(int w, int r) {
            for (int k = 0; k < reader.parts(r); k++) {
                int field = reader.part(r, k);
                int own = writer.partNamed(w, reader.names(), reader.partName(field));
                if (own != NONE) {
                    ask(writer.partNode(writer.part(w, own)), reader.partNode(field));
                } else if (!reader.hasDefault(field)) {
                    return false;
                }
            }
            return true;
        }
    }
}
