import java.util.ArrayList;
import java.util.HashMap;
import java.util.HashSet;
import java.util.LinkedHashMap;
import java.util.List;
import java.util.Map;
import java.util.Set;

/**
 * The document once more, written in another way than the program (trees, exceptions, library maps),
 * so that ModelTest can hold the two against each other.
 */
final class Model {
    static final class Fault extends RuntimeException {
        private static final long serialVersionUID = 1;
        final int number;
        final int at;

        Fault(int number, int at) {
            super("fault " + number + " at " + at, null, false, false);
            this.number = number;
            this.at = at;
        }
    }

    static final class Stop extends RuntimeException {
        private static final long serialVersionUID = 1;
        final int why;

        Stop(int why) {
            super("stop " + why, null, false, false);
            this.why = why;
        }
    }

    // ---- values of texts

    static final class Value {
        int at;
        Object what; // String, Long, Boolean, List<Value>, Map<String, Value>, or null for null
    }

    private static final class Reader {
        private final int[] bytes;
        private int i = 0;

        Reader(int[] bytes) {
            this.bytes = bytes;
        }

        private int now() {
            return i < bytes.length ? bytes[i] : -1;
        }

        private Fault here() {
            return new Fault(1, i);
        }

        private void blanks() {
            while (now() == 9 || now() == 10 || now() == 13 || now() == 32) {
                i++;
            }
        }

        Value text() {
            blanks();
            Value v = value(0);
            blanks();
            if (i != bytes.length) {
                throw here();
            }
            return v;
        }

        private void expect(String word) {
            for (char c : word.toCharArray()) {
                if (now() != c) {
                    throw here();
                }
                i++;
            }
        }

        private Value value(int open) {
            Value v = new Value();
            v.at = i;
            int c = now();
            if ((c == '{' || c == '[') && open == 24) {
                throw here();
            }
            if (c == '{') {
                v.what = members(open + 1);
            } else if (c == '[') {
                v.what = items(open + 1);
            } else if (c == '"') {
                v.what = string();
            } else if (c == 't') {
                expect("true");
                v.what = Boolean.TRUE;
            } else if (c == 'f') {
                expect("false");
                v.what = Boolean.FALSE;
            } else if (c == 'n') {
                expect("null");
            } else {
                v.what = number();
            }
            return v;
        }

        private Map<String, Value> members(int open) {
            Map<String, Value> map = new LinkedHashMap<>();
            i++;
            blanks();
            if (now() == '}') {
                i++;
                return map;
            }
            while (true) {
                int at = i;
                String key = string();
                if (map.containsKey(key)) {
                    throw new Fault(1, at);
                }
                blanks();
                expect(":");
                blanks();
                map.put(key, value(open));
                blanks();
                if (now() == '}') {
                    i++;
                    return map;
                }
                expect(",");
                blanks();
            }
        }

        private List<Value> items(int open) {
            List<Value> list = new ArrayList<>();
            i++;
            blanks();
            if (now() == ']') {
                i++;
                return list;
            }
            while (true) {
                list.add(value(open));
                blanks();
                if (now() == ']') {
                    i++;
                    return list;
                }
                expect(",");
                blanks();
            }
        }

        private String string() {
            StringBuilder told = new StringBuilder();
            expect("\"");
            while (now() != '"') {
                int c = now();
                if (c < 32 || c > 126) {
                    throw here();
                }
                int at = i;
                i++;
                if (c != '\\') {
                    told.append((char) c);
                    continue;
                }
                int k = "\"\\/bfnrtu".indexOf(now() < 0 ? ' ' : (char) now());
                if (k < 0) {
                    throw here();
                }
                i++;
                if (k < 8) {
                    told.append("\"\\/\b\f\n\r\t".charAt(k));
                    continue;
                }
                int sum = 0;
                for (int d = 0; d < 4; d++) {
                    int digit = now() < 0 ? -1 : "0123456789abcdef0123456789ABCDEF".indexOf((char) now());
                    if (digit < 0) {
                        throw here();
                    }
                    sum = sum * 16 + digit % 16;
                    i++;
                }
                if (sum > 255) {
                    throw new Fault(1, at);
                }
                told.append((char) sum);
            }
            i++;
            return told.toString();
        }

        private Long number() {
            int at = i;
            if (now() == '-') {
                i++;
            }
            if (now() < '0' || now() > '9') {
                throw here();
            }
            if (now() == '0') {
                i++;
            } else {
                while (now() >= '0' && now() <= '9') {
                    i++;
                }
            }
            StringBuilder digits = new StringBuilder();
            for (int k = at; k < i; k++) {
                digits.append((char) bytes[k]);
            }
            java.math.BigInteger n = new java.math.BigInteger(digits.toString());
            if (n.bitLength() > 63) {
                throw new Fault(1, at);
            }
            return n.longValueExact();
        }
    }

    // ---- schemas

    static final List<String> SIX = List.of("null", "boolean", "int", "long", "bytes", "string");
    static final List<String> TAKEN = List.of("array", "map", "fixed", "enum", "record");

    static final class Field {
        String name;
        Node type;
        Value value;
    }

    static final class Node {
        final String kind; // one of SIX, TAKEN, or union
        String name;
        int size;
        Node item;
        List<Node> branches = new ArrayList<>();
        List<String> symbols = new ArrayList<>();
        String fallback;
        List<Field> fields = new ArrayList<>();

        Node(String kind) {
            this.kind = kind;
        }

        boolean is(String what) {
            return kind.equals(what);
        }

        boolean simple() {
            return SIX.contains(kind);
        }
    }

    private static final class Maker {
        private int count = 0;
        private final Map<String, Node> named = new HashMap<>();
        private final List<Field> late = new ArrayList<>();

        Node make(Value v) {
            Node n = look(v, 0, false);
            for (Field f : late) {
                fit(f.value, f.type);
            }
            return n;
        }

        private Node look(Value v, int within, boolean branch) {
            if (count >= 128) {
                throw new Fault(13, v.at);
            }
            if (within >= 16) {
                throw new Fault(14, v.at);
            }
            count++;
            if (v.what instanceof String) {
                return called((String) v.what, v.at);
            }
            if (v.what instanceof List<?>) {
                return union(v, within, branch);
            }
            if (v.what instanceof Map<?, ?>) {
                return object(v, within);
            }
            throw new Fault(2, v.at);
        }

        private Node called(String name, int at) {
            if (SIX.contains(name)) {
                return new Node(name);
            }
            if (!named.containsKey(name)) {
                throw new Fault(3, at);
            }
            return named.get(name);
        }

        private Node union(Value v, int within, boolean branch) {
            List<Value> list = list(v);
            if (branch) {
                throw new Fault(4, v.at);
            }
            if (list.isEmpty() || list.size() > 16) {
                throw new Fault(5, v.at);
            }
            Node union = new Node("union");
            Set<String> seen = new HashSet<>();
            for (Value b : list) {
                Node n = look(b, within + 1, true);
                if (!seen.add(n.name != null ? "name " + n.name : n.kind)) {
                    throw new Fault(6, b.at);
                }
                union.branches.add(n);
            }
            return union;
        }

        private Node object(Value v, int within) {
            Map<String, Value> m = map(v);
            Value t = m.get("type");
            if (t == null || !(t.what instanceof String)) {
                throw new Fault(7, v.at);
            }
            String kind = (String) t.what;
            if (!TAKEN.contains(kind)) {
                return called(kind, t.at);
            }
            Node n = new Node(kind);
            if (kind.equals("array") || kind.equals("map")) {
                Value item = m.get(kind.equals("array") ? "items" : "values");
                if (item == null) {
                    throw new Fault(8, v.at);
                }
                n.item = look(item, within + 1, false);
                return n;
            }
            Value name = m.get("name");
            if (name == null || !(name.what instanceof String)) {
                throw new Fault(8, v.at);
            }
            n.name = (String) name.what;
            if (!isName(n.name) || SIX.contains(n.name) || TAKEN.contains(n.name) || named.containsKey(n.name)) {
                throw new Fault(9, name.at);
            }
            named.put(n.name, n);
            if (kind.equals("fixed")) {
                fixed(n, v);
            } else if (kind.equals("enum")) {
                symbols(n, v);
            } else {
                fields(n, v, within);
            }
            return n;
        }

        private void fixed(Node n, Value v) {
            Value size = map(v).get("size");
            if (size == null) {
                throw new Fault(8, v.at);
            }
            if (!(size.what instanceof Long) || (Long) size.what < 0 || (Long) size.what > 64) {
                throw new Fault(10, size.at);
            }
            n.size = ((Long) size.what).intValue();
        }

        private void symbols(Node n, Value v) {
            Value list = map(v).get("symbols");
            if (list == null) {
                throw new Fault(8, v.at);
            }
            if (!(list.what instanceof List<?>) || list(list).isEmpty() || list(list).size() > 32) {
                throw new Fault(11, list.at);
            }
            for (Value s : list(list)) {
                if (!(s.what instanceof String) || !isName((String) s.what) || n.symbols.contains(s.what)) {
                    throw new Fault(11, s.at);
                }
                n.symbols.add((String) s.what);
            }
            Value d = map(v).get("default");
            if (d != null) {
                if (!(d.what instanceof String) || !n.symbols.contains(d.what)) {
                    throw new Fault(12, d.at);
                }
                n.fallback = (String) d.what;
            }
        }

        private void fields(Node n, Value v, int within) {
            Value list = map(v).get("fields");
            if (list == null) {
                throw new Fault(8, v.at);
            }
            if (!(list.what instanceof List<?>) || list(list).size() > 32) {
                throw new Fault(11, list.at);
            }
            for (Value f : list(list)) {
                if (!(f.what instanceof Map<?, ?>)) {
                    throw new Fault(11, f.at);
                }
                Value name = map(f).get("name");
                if (name == null || !(name.what instanceof String)) {
                    throw new Fault(8, f.at);
                }
                Field made = new Field();
                made.name = (String) name.what;
                if (!isName(made.name) || n.fields.stream().anyMatch(o -> o.name.equals(made.name))) {
                    throw new Fault(9, name.at);
                }
                Value type = map(f).get("type");
                if (type == null) {
                    throw new Fault(8, f.at);
                }
                n.fields.add(made);
                made.type = look(type, within + 1, false);
                made.value = map(f).get("default");
                if (made.value != null) {
                    late.add(made);
                }
            }
        }

        private void fit(Value v, Node n) {
            boolean fits;
            switch (n.kind) {
                case "null":
                    fits = v.what == null;
                    break;
                case "boolean":
                    fits = v.what instanceof Boolean;
                    break;
                case "int":
                    fits = v.what instanceof Long && Math.abs((double) (Long) v.what + 0.5) < 2147483648.0;
                    break;
                case "long":
                    fits = v.what instanceof Long;
                    break;
                case "bytes":
                case "string":
                    fits = v.what instanceof String;
                    break;
                case "fixed":
                    fits = v.what instanceof String && ((String) v.what).length() == n.size;
                    break;
                case "enum":
                    fits = v.what instanceof String && n.symbols.contains(v.what);
                    break;
                case "array":
                    fits = v.what instanceof List<?>;
                    break;
                case "union":
                    fits = true;
                    break;
                default:
                    fits = v.what instanceof Map<?, ?>;
            }
            if (!fits) {
                throw new Fault(12, v.at);
            }
            if (n.is("union")) {
                fit(v, n.branches.get(0));
            } else if (n.is("array")) {
                list(v).forEach(o -> fit(o, n.item));
            } else if (n.is("map")) {
                map(v).values().forEach(o -> fit(o, n.item));
            } else if (n.is("record")) {
                for (Field f : n.fields) {
                    if (!map(v).containsKey(f.name)) {
                        throw new Fault(12, v.at);
                    }
                    fit(map(v).get(f.name), f.type);
                }
            }
        }
    }

    private static boolean isName(String s) {
        return s.matches("[A-Za-z_][A-Za-z0-9_]{0,31}") && !s.endsWith("\n");
    }

    @SuppressWarnings("unchecked")
    private static List<Value> list(Value v) {
        return (List<Value>) v.what;
    }

    @SuppressWarnings("unchecked")
    private static Map<String, Value> map(Value v) {
        return (Map<String, Value>) v.what;
    }

    // ---- rows

    /** A datum as a tree. */
    static final class Datum {
        Node node;
        long number; // of an int, long, boolean, branch, symbol
        int[] raw = new int[0]; // of bytes, string, fixed
        List<int[]> keys = new ArrayList<>();
        List<Datum> parts = new ArrayList<>(); // items, fields, or the branch's
    }

    private static final class Scan {
        private final int[] b;
        private int i = 0;
        private int data;
        private int items;

        Scan(int[] bytes) {
            b = bytes;
        }

        Datum row(Node n) {
            data = 0;
            items = 0;
            return datum(n, 0);
        }

        private int one() {
            if (i >= b.length) {
                throw new Fault(1, b.length);
            }
            return b[i++];
        }

        private long varint() {
            int at = i;
            java.math.BigInteger sum = java.math.BigInteger.ZERO;
            for (int k = 0;; k++) {
                int c = one();
                if (k == 9 && c > 1) {
                    throw new Fault(2, at);
                }
                sum = sum.add(java.math.BigInteger.valueOf(c & 127).shiftLeft(7 * k));
                if (c < 128) {
                    break;
                }
            }
            java.math.BigInteger half = sum.shiftRight(1);
            return (sum.testBit(0) ? half.negate().subtract(java.math.BigInteger.ONE) : half).longValueExact();
        }

        private int[] some(long n) {
            if (n > b.length - i) {
                throw new Fault(1, b.length);
            }
            int[] got = new int[(int) n];
            for (int k = 0; k < n; k++) {
                got[k] = one();
            }
            return got;
        }

        private int[] counted() {
            int at = i;
            long n = varint();
            if (n < 0) {
                throw new Fault(6, at);
            }
            return some(n);
        }

        private Datum datum(Node n, int within) {
            if (within >= 32) {
                throw new Fault(7, i);
            }
            if (++data > 4000) {
                throw new Fault(8, i);
            }
            Datum d = new Datum();
            d.node = n;
            int at = i;
            switch (n.kind) {
                case "null":
                    break;
                case "boolean":
                    d.number = one();
                    if (d.number > 1) {
                        throw new Fault(3, at);
                    }
                    break;
                case "int":
                    d.number = varint();
                    if (d.number > Integer.MAX_VALUE || d.number < Integer.MIN_VALUE) {
                        throw new Fault(2, at);
                    }
                    break;
                case "long":
                    d.number = varint();
                    break;
                case "bytes":
                case "string":
                    d.raw = counted();
                    break;
                case "fixed":
                    d.raw = some(n.size);
                    break;
                case "enum":
                    d.number = varint();
                    if (d.number < 0 || d.number >= n.symbols.size()) {
                        throw new Fault(5, at);
                    }
                    break;
                case "union":
                    d.number = varint();
                    if (d.number < 0 || d.number >= n.branches.size()) {
                        throw new Fault(4, at);
                    }
                    d.parts.add(datum(n.branches.get((int) d.number), within + 1));
                    break;
                case "record":
                    for (Field f : n.fields) {
                        d.parts.add(datum(f.type, within + 1));
                    }
                    break;
                default:
                    blocks(d, n, within);
            }
            return d;
        }

        private void blocks(Datum d, Node n, int within) {
            while (true) {
                int at = i;
                long count = varint();
                if (count == 0) {
                    return;
                }
                java.math.BigInteger many = java.math.BigInteger.valueOf(count).abs();
                if (many.add(java.math.BigInteger.valueOf(items)).compareTo(java.math.BigInteger.valueOf(2000)) > 0) {
                    throw new Fault(6, at);
                }
                items += many.intValue();
                int sizeAt = i;
                long size = count < 0 ? varint() : -1;
                int begin = i;
                for (int k = 0; k < many.intValue(); k++) {
                    if (n.is("map")) {
                        d.keys.add(counted());
                    }
                    d.parts.add(datum(n.item, within + 1));
                }
                if (count < 0 && size != i - begin) {
                    throw new Fault(6, sizeAt);
                }
            }
        }
    }

    // ---- telling

    private static final class Sink {
        final List<Integer> bytes = new ArrayList<>();
        final int most;

        Sink(int most) {
            this.most = most;
        }

        void one(int b) {
            if (bytes.size() >= most) {
                throw new Stop(RecordTeller.FULL);
            }
            bytes.add(b);
        }

        void varint(long v) {
            java.math.BigInteger n = java.math.BigInteger.valueOf(v).shiftLeft(1);
            if (v < 0) {
                n = n.negate().subtract(java.math.BigInteger.ONE);
            }
            while (n.bitLength() > 7) {
                one(n.intValue() & 127 | 128);
                n = n.shiftRight(7);
            }
            one(n.intValue());
        }

        void counted(int[] raw) {
            varint(raw.length);
            for (int b : raw) {
                one(b);
            }
        }

        void normal(Datum d) {
            switch (d.node.kind) {
                case "boolean":
                    one((int) d.number);
                    break;
                case "int":
                case "long":
                case "enum":
                    varint(d.number);
                    break;
                case "bytes":
                case "string":
                    counted(d.raw);
                    break;
                case "fixed":
                    for (int b : d.raw) {
                        one(b);
                    }
                    break;
                case "union":
                    varint(d.number);
                    normal(d.parts.get(0));
                    break;
                case "record":
                    d.parts.forEach(this::normal);
                    break;
                case "array":
                case "map":
                    if (!d.parts.isEmpty()) {
                        varint(d.parts.size());
                    }
                    for (int k = 0; k < d.parts.size(); k++) {
                        if (d.node.is("map")) {
                            counted(d.keys.get(k));
                        }
                        normal(d.parts.get(k));
                    }
                    varint(0);
                    break;
                default:
            }
        }

        void tell(Datum d, Node r) {
            Node w = d.node;
            if (w.is("union")) {
                tell(d.parts.get(0), r);
            } else if (r.is("union")) {
                int k = firstMatch(w, r);
                if (k < 0) {
                    throw new Stop(RecordTeller.UNRESOLVED);
                }
                varint(k);
                tell(d, r.branches.get(k));
            } else if (w.simple()) {
                if (!matches(w, r)) {
                    throw new Stop(RecordTeller.UNRESOLVED);
                }
                normal(d);
            } else if (!w.kind.equals(r.kind) || w.name != null && !w.name.equals(r.name)
                    || w.is("fixed") && w.size != r.size) {
                throw new Stop(RecordTeller.UNRESOLVED);
            } else if (w.is("fixed")) {
                normal(d);
            } else if (w.is("enum")) {
                String s = w.symbols.get((int) d.number);
                int k = r.symbols.indexOf(r.symbols.contains(s) ? s : r.fallback);
                if (k < 0) {
                    throw new Stop(RecordTeller.UNRESOLVED);
                }
                varint(k);
            } else if (w.is("record")) {
                tellFields(d, r);
            } else {
                if (!d.parts.isEmpty()) {
                    varint(d.parts.size());
                }
                for (int k = 0; k < d.parts.size(); k++) {
                    if (w.is("map")) {
                        counted(d.keys.get(k));
                    }
                    tell(d.parts.get(k), r.item);
                }
                varint(0);
            }
        }

        private void tellFields(Datum d, Node r) {
            for (Field f : r.fields) {
                int k = indexOf(d.node, f.name);
                if (k >= 0) {
                    tell(d.parts.get(k), f.type);
                } else if (f.value != null) {
                    value(f.value, f.type);
                } else {
                    throw new Stop(RecordTeller.UNRESOLVED);
                }
            }
        }

        private void value(Value v, Node n) {
            switch (n.kind) {
                case "boolean":
                    one((Boolean) v.what ? 1 : 0);
                    break;
                case "int":
                case "long":
                    varint((Long) v.what);
                    break;
                case "bytes":
                case "string":
                    counted(raw((String) v.what));
                    break;
                case "fixed":
                    for (int b : raw((String) v.what)) {
                        one(b);
                    }
                    break;
                case "enum":
                    varint(n.symbols.indexOf(v.what));
                    break;
                case "union":
                    one(0);
                    value(v, n.branches.get(0));
                    break;
                case "record":
                    n.fields.forEach(f -> value(map(v).get(f.name), f.type));
                    break;
                case "array":
                    if (!list(v).isEmpty()) {
                        varint(list(v).size());
                    }
                    list(v).forEach(o -> value(o, n.item));
                    one(0);
                    break;
                case "map":
                    if (!map(v).isEmpty()) {
                        varint(map(v).size());
                    }
                    map(v).forEach((k, o) -> {
                        counted(raw(k));
                        value(o, n.item);
                    });
                    one(0);
                    break;
                default:
            }
        }
    }

    private static int[] raw(String s) {
        return s.chars().toArray();
    }

    private static int indexOf(Node record, String field) {
        for (int k = 0; k < record.fields.size(); k++) {
            if (record.fields.get(k).name.equals(field)) {
                return k;
            }
        }
        return -1;
    }

    private static boolean matches(Node w, Node r) {
        if (w.is("union") || r.is("union")) {
            return true;
        }
        if (w.is("int") && r.is("long") || w.is("bytes") && r.is("string") || w.is("string") && r.is("bytes")) {
            return true;
        }
        if (!w.kind.equals(r.kind)) {
            return false;
        }
        if (w.item != null) {
            return matches(w.item, r.item);
        }
        return w.simple() || w.name.equals(r.name) && w.size == r.size;
    }

    private static int firstMatch(Node w, Node union) {
        for (int k = 0; k < union.branches.size(); k++) {
            if (matches(w, union.branches.get(k))) {
                return k;
            }
        }
        return -1;
    }

    private static boolean fit(Node w, Node r, Set<List<Object>> asked) {
        if (w.simple() && r.simple()) {
            return matches(w, r);
        }
        List<Object> pair = List.of(System.identityHashCode(w), w, System.identityHashCode(r), r);
        if (asked.contains(pair)) {
            return true;
        }
        asked.add(pair);
        boolean answer = fitNew(w, r, asked);
        asked.remove(pair);
        return answer;
    }

    private static boolean fitNew(Node w, Node r, Set<List<Object>> asked) {
        if (w.is("union")) {
            return w.branches.stream().allMatch(b -> fit(b, r, asked));
        }
        if (r.is("union")) {
            int k = firstMatch(w, r);
            return k >= 0 && fit(w, r.branches.get(k), asked);
        }
        if (!w.kind.equals(r.kind)) {
            return false;
        }
        if (w.item != null) {
            return fit(w.item, r.item, asked);
        }
        if (!w.name.equals(r.name) || w.size != r.size) {
            return false;
        }
        if (w.is("enum")) {
            return r.fallback != null || r.symbols.containsAll(w.symbols);
        }
        for (Field f : r.fields) {
            int k = indexOf(w, f.name);
            if (k < 0 ? f.value == null : !fit(w.fields.get(k).type, f.type, asked)) {
                return false;
            }
        }
        return true;
    }

    // ---- the face

    private List<Integer> tape = new ArrayList<>();
    final Node[] kept = new Node[8];
    private List<Datum> rows = new ArrayList<>();
    private int rowsPlace = -1;
    private int place = -1;
    private List<Integer> out = new ArrayList<>();

    int feed(int... five) {
        if (tape.size() + 20 > 4096) {
            throw new IllegalStateException();
        }
        for (int n : five) {
            for (byte b : java.nio.ByteBuffer.allocate(4).putInt(n).array()) {
                tape.add(b & 255);
            }
        }
        return tape.size();
    }

    void end(int n) {
        if (n < 0 || n > tape.size()) {
            throw new IllegalArgumentException();
        }
        tape = new ArrayList<>(tape.subList(0, n));
    }

    private int[] bytes() {
        return tape.stream().mapToInt(b -> b).toArray();
    }

    private static void checkPlace(int p) {
        if (p < 0 || p > 7) {
            throw new IndexOutOfBoundsException();
        }
    }

    private Node keptAt(int p) {
        if (kept[p] == null) {
            throw new IllegalStateException();
        }
        return kept[p];
    }

    int schema(int p) {
        checkPlace(p);
        place = -1;
        try {
            kept[p] = new Maker().make(new Reader(bytes()).text());
        } catch (Fault f) {
            place = f.at;
            return f.number;
        }
        if (rowsPlace == p) {
            rows = new ArrayList<>();
        }
        tape.clear();
        return 0;
    }

    int load(int p) {
        checkPlace(p);
        Node n = keptAt(p);
        place = -1;
        List<Datum> found = new ArrayList<>();
        Scan scan = new Scan(bytes());
        try {
            if (tape.isEmpty()) {
                return RecordTeller.EMPTY;
            }
            while (scan.i < tape.size()) {
                int before = scan.i;
                found.add(scan.row(n));
                if (scan.i == before) {
                    return RecordTeller.EMPTY;
                }
            }
        } catch (Fault f) {
            place = f.at;
            return -f.number;
        }
        rows = found;
        rowsPlace = p;
        tape.clear();
        return rows.size();
    }

    int place() {
        return place;
    }

    int rows() {
        return rows.size();
    }

    private List<Integer> what(int what) {
        if (what == 1) {
            return out;
        }
        if (what != 0) {
            throw new IllegalArgumentException();
        }
        Sink sink = new Sink(1 << 20);
        rows.forEach(sink::normal);
        return sink.bytes;
    }

    int size(int what) {
        return what(what).size();
    }

    int letter(int i, int what) {
        List<Integer> bytes = what(what);
        if (i < 0 || i >= bytes.size()) {
            throw new IndexOutOfBoundsException();
        }
        return bytes.get(i);
    }

    private int tellTo(Sink sink, int i, Node r) {
        try {
            sink.tell(rows.get(i), r);
            return sink.bytes.size();
        } catch (Stop s) {
            return s.why;
        }
    }

    int read(int p, int i) {
        checkPlace(p);
        if (i < 0 || i >= rows.size()) {
            throw new IndexOutOfBoundsException();
        }
        Node r = keptAt(p);
        Sink sink = new Sink(4096);
        int answer = tellTo(sink, i, r);
        out = answer < 0 ? new ArrayList<>() : sink.bytes;
        return answer;
    }

    int all(int p) {
        checkPlace(p);
        Node r = keptAt(p);
        for (int i = 0; i < rows.size(); i++) {
            if (tellTo(new Sink(4096), i, r) < 0) {
                return i;
            }
        }
        return rows.size();
    }

    boolean fits(int w, int r) {
        checkPlace(w);
        checkPlace(r);
        Node writer = keptAt(w);
        return fit(writer, keptAt(r), new HashSet<>());
    }
}
