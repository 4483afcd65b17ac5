import java.util.function.Consumer;
import java.util.function.Function;

/** Each sentence of the document on the calls themselves that names an edge: those that are refused change nothing. */
public final class EdgesOfCallsTest {
    private static final int[] NO_PLACES = {-1, 8, 9, 255, 256, 1 << 16, 1 << 31, Integer.MIN_VALUE + 1, Integer.MAX_VALUE, -8};
    private static final String INDEX = "throws.IndexOutOfBoundsException";
    private static final String ARGUMENT = "throws.IllegalArgumentException";
    private static final String STATE = "throws.IllegalStateException";

    public static void main(String[] args) {
        newObject();
        highestOneFirst();
        moreThan4096();
        cutBehindN();
        cutBytesAreGone();
        refusedEnds();
        refusedSchemas();
        faultySchemas();
        schemasThatStand();
        rowsThatAreGone();
        refusedLoads();
        faultyLoads();
        loadsThatStand();
        placesOfFaults();
        sizes();
        letters();
        refusedReads();
        readsThatFail();
        readsThatStand();
        alls();
        fits();
        namedFirst();
        objectsApart();
        calls512();
        Check.done();
    }

    /** Schemas at places 0 to 4 and 7, rows of place 0, OUT, and a text on the tape that is a schema. */
    private static void past(Check c) {
        c.keep(0, Check.array("\"string\"")).keep(1, Check.array("[\"bytes\"]")).keep(2, "\"null\"").keep(3, Check.record("R", "a=\"R\""));
        c.keep(4, "[\"int\"," + Check.symbols("E", "a", "b") + "]").keep(Twins.BYTES, Check.fixed("B", 1));
        c.load(0, 2, 2, 65, 0, 0, 4, 0, 4, 66, 67, 0);
        c.teller.read(1, 2);
        c.tape(Check.latin("[\"int\",\"long\"]"));
    }

    private static void unchanged(String what, Function<Check, Object> call, Object due) {
        Twins.unchanged(what, EdgesOfCallsTest::past, call, due);
    }

    private static Object cut(Check c, int n) {
        c.teller.end(n);
        return "";
    }

    /** Promise 1: "An empty tape, no schemas, no rows." */
    private static void newObject() {
        Consumer<Check> none = c -> {
        };
        Twins.unchanged("a new object's end(1)", none, c -> cut(c, 1), ARGUMENT);
        Twins.unchanged("a new object's letter(0, 0)", none, c -> c.teller.letter(0, 0), INDEX);
        Twins.unchanged("a new object's letter(0, 1)", none, c -> c.teller.letter(0, 1), INDEX);
        for (int p = 0; p < 8; p++) {
            int place = p;
            Twins.unchanged("a new object's load", none, c -> c.teller.load(place), STATE);
            Twins.unchanged("a new object's read", none, c -> c.teller.read(place, 0), INDEX);
            Twins.unchanged("a new object's all", none, c -> c.teller.all(place), STATE);
            Twins.unchanged("a new object's fits", none, c -> c.teller.fits(place, place), STATE);
        }
        Twins.unchangedButPlace("a new object's schema(0)", none, c -> c.teller.schema(0) + "@" + c.teller.place(), "1@0");
        Twins.unchanged("a new object's place", none, c -> c.teller.place(), -1);
        Twins.unchanged("a new object's rows", none, c -> c.teller.rows() + c.teller.size(0) + c.teller.size(1), 0);
    }

    /** Promise 2: "Twenty bytes come behind the tape, each number's highest one first" */
    private static void highestOneFirst() {
        int[] numbers = {0, 1, -1, 0x01020304, 0x80000000, 0x7fffffff, 0xff000000, 0x00ff0000, 0x0000ff00, 0x000000ff, 0xfffefdfc, 0x80818283};
        for (int at = 0; at < 5; at++) {
            for (int n : numbers) {
                int[] five = {0x0a0b0c0d, 0x1a1b1c1d, 0x2a2b2c2d, 0x3a3b3c3d, 0x4a4b4c4d};
                five[at] = n;
                Check c = new Check().keep(0, Check.fixed("F", 1));
                Check.due("feed", c.teller.feed(five[0], five[1], five[2], five[3], five[4]), 20);
                StringBuilder due = new StringBuilder();
                for (int f : five) {
                    due.append(f >>> 24).append(' ').append(f >>> 16 & 255).append(' ').append(f >>> 8 & 255).append(' ').append(f & 255).append(' ');
                }
                Check.due("load", c.teller.load(0), 20);
                Check.due("bytes with " + n + " at " + at, c.letters(0), due.toString().trim());
            }
        }
        Check c = new Check().keep(0, Check.fixed("F", 1));
        c.teller.feed(1, 2, 3, 4, 5);
        c.teller.end(1);
        Check.due("behind what is left", c.teller.feed(0x06000000, 0, 0, 0, 7), 21);
        c.teller.load(0);
        Check.due("bytes", c.letters(0), "0 6" + " 0".repeat(18) + " 7");
    }

    /** "IllegalStateException when there would be more than 4096." */
    private static void moreThan4096() {
        for (int n : new int[] {4096, 4095, 4086, 4080, 4077}) {
            Consumer<Check> past = c -> c.keep(Twins.BYTES, Check.fixed("B", 1)).tape(of(n));
            Twins.unchanged("feed behind " + n, past, c -> c.teller.feed(-1, -1, -1, -1, -1), STATE);
        }
        for (int n : new int[] {4076, 4075, 4056}) {
            Check c = new Check().keep(0, Check.fixed("B", 1)).tape(of(n));
            Check.due("feed behind " + n, c.teller.feed(0x01020304, 0x05060708, 0x090a0b0c, 0x0d0e0f10, 0x11121314), n + 20);
            Check.due("rows", c.teller.load(0), n + 20);
            Check.due("last", c.teller.letter(n + 19, 0) + " " + c.teller.letter(n, 0) + " " + c.teller.letter(n - 1, 0), "20 1 " + ((n - 1) % 251));
        }
        Check c = new Check();
        for (int k = 1; k <= 204; k++) {
            Check.due("feed", c.teller.feed(0, 0, 0, 0, 0), 20 * k);
        }
        for (int k = 0; k < 3; k++) {
            Check.due("feed 205", Check.answer(() -> c.teller.feed(0, 0, 0, 0, 0)), STATE);
        }
        c.teller.end(4076);
        Check.due("to the last byte", c.teller.feed(0, 0, 0, 0, 0), 4096);
        c.teller.end(0);
        Check.due("from the first on", c.teller.feed(0, 0, 0, 0, 0), 20);
    }

    private static byte[] of(int n) {
        byte[] b = new byte[n];
        for (int k = 0; k < n; k++) {
            b[k] = (byte) (k % 251);
        }
        return b;
    }

    /** Promise 3: "The tape is cut behind its first n bytes." */
    private static void cutBehindN() {
        for (int n = 0; n <= 40; n++) {
            Check c = new Check().keep(0, Check.fixed("B", 1)).tape(of(40));
            c.teller.end(n);
            Check.due("length", c.tapeLength(), n);
            Check.due("rows of " + n, c.teller.load(0), n == 0 ? RecordTeller.EMPTY : n);
            StringBuilder due = new StringBuilder();
            for (int k = 0; k < n; k++) {
                due.append(k == 0 ? "" : " ").append(k);
            }
            Check.due("bytes of " + n, c.letters(0), due.toString());
        }
        Check c = new Check().keep(0, Check.fixed("B", 1)).tape(of(4096));
        c.teller.end(4096);
        Check.due("all of a full tape", c.tapeLength(), 4096);
        c.teller.end(4095);
        Check.due("all but one", c.tapeLength(), 4095);
        Check.due("which is gone", Check.answer(() -> cut(c, 4096)), ARGUMENT);
    }

    /** What is cut off does not count, whatever it was. */
    private static void cutBytesAreGone() {
        String[] texts = {"[\"int\"]", "{\"type\":\"int\"}", "\"int\"", " \"int\" ", "true", "12", "[1,2]", "\"\\n\"", "\"\\u0041\""};
        for (String text : texts) {
            for (int n = 0; n < text.length(); n++) {
                Check c = new Check().tape(Check.latin(text));
                c.teller.end(n);
                Check d = new Check();
                String due = d.schema(0, text.substring(0, n));
                Check.due(text + " cut behind " + n, c.teller.schema(0) + "@" + c.teller.place(), due.contains("@") ? due : due + "@-1");
            }
        }
        String[] types = {"\"int\"", "\"boolean\"", "\"string\"", Check.array("\"int\""), Check.fixed("F", 4), "[\"null\",\"int\"]"};
        int[] rows = {128, 1, 4, 66, 67, 2, 5, 0, 2, 0, 2, 2};
        for (String type : types) {
            for (int n = 0; n < rows.length; n++) {
                Check c = new Check().keep(0, type).tape(Check.bytes(rows));
                c.teller.end(n);
                Check d = new Check().keep(0, type);
                Check.due(type + "'s rows cut behind " + n, c.teller.load(0) + " " + c.teller.place() + " " + c.letters(0),
                        d.tape(java.util.Arrays.copyOf(Check.bytes(rows), n)).teller.load(0) + " " + d.teller.place() + " " + d.letters(0));
            }
        }
    }

    /** "IllegalArgumentException when n is below 0, or more than it has." */
    private static void refusedEnds() {
        int has = "[\"int\",\"long\"]".length();
        for (int n : new int[] {-1, -2, Integer.MIN_VALUE, Integer.MIN_VALUE + 1, has + 1, has + 2, 4096, 4097, 65536, Integer.MAX_VALUE}) {
            unchanged("end(" + n + ")", c -> cut(c, n), ARGUMENT);
        }
        unchanged("end at the length", c -> cut(c, has), "");
        Twins.unchanged("end(0) of an empty tape", c -> c.keep(Twins.BYTES, Check.fixed("B", 1)), c -> cut(c, 0), "");
        Twins.unchanged("end(1) of an empty tape", c -> c.keep(Twins.BYTES, Check.fixed("B", 1)), c -> cut(c, 1), ARGUMENT);
        Twins.unchanged("end(4097) of a full tape", c -> c.keep(Twins.BYTES, Check.fixed("B", 1)).tape(of(4096)), c -> cut(c, 4097), ARGUMENT);
        Twins.unchanged("end(4096) of a full tape", c -> c.keep(Twins.BYTES, Check.fixed("B", 1)).tape(of(4096)), c -> cut(c, 4096), "");
    }

    /** Promise 4: "IndexOutOfBoundsException." */
    private static void refusedSchemas() {
        for (int p : NO_PLACES) {
            unchanged("schema(" + p + ")", c -> c.teller.schema(p), INDEX);
            Twins.unchanged("schema(" + p + ") of a faulty text", c -> {
                past(c);
                c.schema(5, "[7");
                c.tape(Check.latin("[7,"));
            }, c -> c.teller.schema(p), INDEX);
            Twins.unchanged("schema(" + p + ") of no text", c -> {
                past(c);
                c.teller.end(0);
            }, c -> c.teller.schema(p), INDEX);
        }
    }

    /** "or its FAULT, 1 .. 14, and all stays" */
    private static void faultySchemas() {
        String[] texts = {"[\"int\"^", "^7", "^\"foo\"", "[^[]]", "^[]", "[\"int\",^\"int\"]", "^{}", "^{\"type\":\"map\"}",
            "{\"type\":\"fixed\",\"name\":^\"\"}", "{\"type\":\"fixed\",\"name\":\"F\",\"size\":^65}", "{\"type\":\"enum\",\"name\":\"F\",\"symbols\":^[]}",
            Check.record("R", "a=\"int\"=^\"\""), many(), deep()};
        for (int k = 0; k < 14; k++) {
            String text = texts[k].replace("^", "");
            String due = k + 1 + "@" + texts[k].indexOf('^');
            for (int p : new int[] {0, 1, 5, 7}) {
                Twins.unchangedButPlace("schema(" + p + ") of " + text, c -> {
                    past(c);
                    c.tape(Check.latin(text));
                }, c -> c.teller.schema(p) + "@" + c.teller.place(), due);
            }
            Check c = new Check();
            Check.due("once", c.schema(3, text), due);
            Check.due("and again", c.teller.schema(4) + "@" + c.teller.place(), due);
            Check.due("it can be mended", c.tapeLength(), text.length());
        }
    }

    /** A record and 31 fields of four schemas each: the 129th is in the last field's union. */
    private static String many() {
        String[] fields = new String[32];
        for (int k = 0; k < 32; k++) {
            fields[k] = "f" + k + "=[\"int\",\"long\"," + (k == 31 ? "^" : "") + "\"null\"]";
        }
        return Check.record("R", fields);
    }

    private static String deep() {
        String deep = "^\"int\"";
        for (int k = 0; k < 16; k++) {
            deep = Check.array(deep);
        }
        return deep;
    }

    /** "The tape, as a text, is a schema that a place keeps from now on, and is empty then: 0" */
    private static void schemasThatStand() {
        Check c = new Check();
        for (int p = 0; p < 8; p++) {
            Check.due("schema(" + p + ")", c.schema(p, Check.fixed("F", p + 1)), "0");
            Check.due("tape", c.tapeLength(), 0);
            Check.due("place", c.teller.place(), -1);
        }
        for (int p = 0; p < 8; p++) {
            for (int q = 0; q < 8; q++) {
                Check.due("fits " + p + ", " + q, c.teller.fits(p, q), p == q);
            }
            Check.due("rows of place " + p, c.load(p, new byte[840]), "" + 840 / (p + 1));
        }
        for (int p = 7; p >= 0; p--) {
            Check.due("another one", c.schema(p, Check.fixed("F", 20 + p)), "0");
            for (int q = 0; q < 8; q++) {
                int size = q < p ? q + 1 : 20 + q;
                Check.due("a row of place " + q, c.load(q, new byte[size]), "1");
                Check.due("two of them", c.load(q, new byte[2 * size]), "2");
                Check.due("a byte lacks", c.load(q, new byte[3 * size + size - 1]), size == 1 ? "3" : "-1@" + (4 * size - 1));
            }
        }
    }

    /** "(THE ROWS, if they are of what the place kept before, are gone: there are none; others, and OUT, stay.)" */
    private static void rowsThatAreGone() {
        for (int of = 0; of < 8; of++) {
            for (int p = 0; p < 8; p++) {
                Check c = new Check();
                for (int k = 0; k < 8; k++) {
                    c.keep(k, "\"boolean\"");
                }
                c.load(of, 1, 0, 1);
                c.teller.read(of, 2);
                c.keep(p, "\"boolean\"");
                Check.due("rows of " + of + " behind schema(" + p + ")", c.teller.rows() + ":" + c.letters(0), p == of ? "0:" : "3:1 0 1");
                Check.due("OUT", c.letters(1), "1");
                Check.due("row", Check.answer(() -> c.teller.read(0, 1)), p == of ? INDEX : 1);
                Check.due("all", c.teller.all(p), p == of ? 0 : 3);
                c.keep(of, "\"boolean\"");
                Check.due("rows of " + of + " behind schema(" + of + ")", c.teller.rows(), 0);
                c.load(p, 0, 0);
                c.keep(of, "\"boolean\"");
                Check.due("new rows of " + p + " behind schema(" + of + ")", c.teller.rows(), p == of ? 0 : 2);
            }
        }
        // Rows of what the place keeps are told by that, whatever was loaded or kept elsewhere meanwhile.
        Check c = new Check().keep(0, "[\"null\",\"int\"]").keep(1, "\"int\"").keep(2, "\"string\"");
        c.load(0, 2, 5);
        Check.due("a load that fails", c.load(2, 9), "-6@0");
        Check.due("EMPTY", c.load(1), "-34");
        c.keep(2, "[\"long\"]").keep(3, "\"long\"");
        Check.due("told", c.read(1, 0) + "," + c.read(2, 0) + "," + c.read(3, 0), "5,0 5,5");
        Check.due("a load that throws", Check.answer(() -> c.teller.load(8)), INDEX);
        Check.due("a schema that throws", Check.answer(() -> c.teller.schema(-1)), INDEX);
        Check.due("told still", c.read(1, 0) + "," + c.teller.rows(), "5,1");
    }

    /** Promise 5: "IndexOutOfBoundsException; IllegalStateException." */
    private static void refusedLoads() {
        for (int p : NO_PLACES) {
            unchanged("load(" + p + ")", c -> c.teller.load(p), INDEX);
        }
        for (int p : new int[] {5, 6}) {
            unchanged("load(" + p + ")", c -> c.teller.load(p), STATE);
            Twins.unchanged("load(" + p + ") of no byte", c -> {
                past(c);
                c.schema(0, "[[");
                c.teller.end(0);
            }, c -> c.teller.load(p), STATE);
        }
    }

    /** "Minus the FAULT, 1 .. 8, or EMPTY when the tape has no byte, or a row ends (without a FAULT) and has none: all stays." */
    private static void faultyLoads() {
        String big = Check.record("W", "a=" + Check.array(Check.record("P", "x=\"null\"")), "z=\"int\"");
        String[] types = {"\"int\"", "\"int\"", "\"boolean\"", "[\"null\"]", Check.symbols("E", "a"), "\"string\"",
            Check.record("R", "b=\"boolean\"", "a=\"R\""), big};
        String[] good = {"5", "5", "1", "0", "0", "2 65", "", "2 0 5"};
        String[] bad = {"128", "255 255 255 255 255 255 255 255 255 255", "2", "2", "2", "1", "0 ".repeat(31), Check.varint(1999) + " 0"};
        int[] in = {1, 0, 0, 0, 0, 0, 31, 3};
        for (int k = 0; k < 8; k++) {
            String type = types[k];
            for (String rows : new String[] {bad[k], good[k] + " " + bad[k], good[k] + " " + good[k] + " " + bad[k]}) {
                byte[] b = Check.numbers(rows);
                int before = b.length - Check.numbers(bad[k]).length;
                String due = -(k + 1) + "@" + (before + in[k]);
                Consumer<Check> past = c -> {
                    past(c);
                    c.keep(5, type);
                    c.schema(6, "\"foo\"");
                    c.tape(b);
                };
                Twins.unchangedButPlace("load of " + rows + " as " + type, past, c -> c.teller.load(5) + "@" + c.teller.place(), due);
                Twins.unchangedButPlace("twice " + rows, past, c -> c.teller.load(5) + "," + c.teller.load(5) + "@" + c.teller.place(), -(k + 1) + "," + due);
            }
        }
        for (int p : new int[] {0, 1, 2, 3, 4, 7}) {
            Twins.unchangedButPlace("load(" + p + ") of no byte", c -> {
                past(c);
                c.teller.end(0);
            }, c -> c.teller.load(p) + "@" + c.teller.place(), "-34@-1");
        }
        for (String type : new String[] {"\"null\"", Check.fixed("F", 0), Check.record("S"), Check.record("S", "a=\"null\"")}) {
            Twins.unchangedButPlace("load of " + type, c -> {
                past(c);
                c.keep(5, type);
                c.schema(6, "\"foo\"");
                c.tape(Check.bytes(0, 1, 2));
            }, c -> c.teller.load(5) + "@" + c.teller.place(), "-34@-1");
        }
    }

    /** "how many; they are THE ROWS then, NORMAL, and the tape is empty" */
    private static void loadsThatStand() {
        Check c = new Check();
        past(c);
        for (int n : new int[] {1, 2, 19, 20, 21, 100, 4095, 4096}) {
            Check.due("rows", c.load(7, of(n)), "" + n);
            Check.due("rows", c.teller.rows() + " " + c.teller.size(0), n + " " + n);
            Check.due("first and last", c.teller.letter(0, 0) + " " + c.teller.letter(n - 1, 0), "0 " + (n - 1) % 251);
            Check.due("tape", c.tapeLength(), 0);
            Check.due("OUT stays", c.letters(1), "4 0 0 0 4 66 67 0");
            Check.due("a row that is none", Check.answer(() -> c.teller.read(7, n)), INDEX);
        }
        Check.due("fewer", c.load(7, 5), "1");
        Check.due("bytes", c.letters(0), "5");
    }

    /** Promise 6: "Where the fault of the latest schema or load was; NONE if it had none (EMPTY is none), and at first." */
    private static void placesOfFaults() {
        Check c = new Check();
        Check.due("at first", c.teller.place(), -1);
        String[] steps = {"schema fault", "schema", "load fault", "load", "EMPTY"};
        for (String before : steps) {
            for (String then : steps) {
                int due = step(c, before);
                Check.due(before, c.teller.place(), due);
                due = step(c, then);
                Check.due(then + " behind " + before, c.teller.place(), due);
                others(c);
                Check.due(then + " and others", c.teller.place(), due);
            }
        }
    }

    private static int step(Check c, String what) {
        c.tape(Check.latin("\"boolean\""));
        if (what.equals("schema fault")) {
            c.schema(0, "   7");
            return 3;
        }
        c.teller.schema(1);
        switch (what) {
            case "schema":
                return -1;
            case "load fault":
                c.load(1, 1, 0, 1, 0, 1, 2);
                return 5;
            case "load":
                c.load(1, 1, 0, 1);
                return -1;
            default:
                c.load(1);
                return -1;
        }
    }

    /** All calls that have no say on place, those that throw too. */
    private static void others(Check c) {
        RecordTeller t = c.teller;
        t.end(0);
        t.feed(1, 2, 3, 4, 5);
        t.end(10);
        t.rows();
        t.size(0);
        t.size(1);
        Check.answer(() -> t.size(2));
        Check.answer(() -> t.letter(0, 0));
        Check.answer(() -> t.letter(-1, 0));
        Check.answer(() -> t.letter(0, 7));
        Check.answer(() -> t.read(1, 0));
        Check.answer(() -> t.read(1, 99));
        Check.answer(() -> t.read(7, 0));
        Check.answer(() -> t.all(1));
        Check.answer(() -> t.all(7));
        Check.answer(() -> t.fits(1, 1));
        Check.answer(() -> t.fits(1, 7));
        Check.answer(() -> t.schema(8));
        Check.answer(() -> t.schema(-1));
        Check.answer(() -> t.load(8));
        Check.answer(() -> t.load(7));
        Check.answer(() -> cut(c, 11));
    }

    /** Promise 8: "IllegalArgumentException when what is none of these." */
    private static void sizes() {
        for (int what : new int[] {-1, 2, 3, 256, 257, 1 << 16, 1 << 31, Integer.MIN_VALUE + 1, Integer.MAX_VALUE}) {
            unchanged("size(" + what + ")", c -> c.teller.size(what), ARGUMENT);
        }
        unchanged("size(0)", c -> c.teller.size(0), 11);
        unchanged("size(1)", c -> c.teller.size(1), 8);
    }

    /** Promise 9: "IndexOutOfBoundsException; IllegalArgumentException when what is none of these (whatever i is)." */
    private static void letters() {
        for (int what : new int[] {-1, 2, 3, 256, 257, Integer.MIN_VALUE, Integer.MAX_VALUE}) {
            for (int i : new int[] {0, 1, -1, 7, 8, 9, 10, 4096, Integer.MIN_VALUE, Integer.MAX_VALUE}) {
                Check c = new Check();
                past(c);
                Check.due("letter(" + i + ", " + what + ")", Check.answer(() -> c.teller.letter(i, what)), ARGUMENT);
                Check.due("of a new object", Check.answer(() -> new RecordTeller().letter(i, what)), ARGUMENT);
            }
        }
        for (int i : new int[] {-1, Integer.MIN_VALUE, Integer.MAX_VALUE, 4095, 4096, 11, 12}) {
            unchanged("letter(" + i + ", 0)", c -> c.teller.letter(i, 0), INDEX);
        }
        for (int i : new int[] {-1, Integer.MIN_VALUE, Integer.MAX_VALUE, 4095, 4096, 8, 9}) {
            unchanged("letter(" + i + ", 1)", c -> c.teller.letter(i, 1), INDEX);
        }
        unchanged("letter(-1, 2)", c -> c.teller.letter(-1, 2), ARGUMENT);
        unchanged("letter(9, 0)", c -> c.teller.letter(9, 0), 67);
        unchanged("letter(10, 0)", c -> c.teller.letter(10, 0), 0);
        unchanged("letter(7, 1)", c -> c.teller.letter(7, 1), 0);
        unchanged("letter(0, 0)", c -> c.teller.letter(0, 0), 2);
        unchanged("letter(0, 1)", c -> c.teller.letter(0, 1), 4);
        // Behind a shorter OUT and fewer rows those of before are gone.
        Check c = new Check().keep(0, "\"string\"");
        c.load(0, 6, 7, 8, 9, 2, 7, 0);
        c.teller.read(0, 0);
        c.teller.read(0, 1);
        Check.due("OUT", c.letters(1), "2 7");
        c.teller.read(0, 2);
        Check.due("OUT", c.letters(1), "0");
        c.load(0, 2, 9);
        Check.due("rows", c.letters(0), "2 9");
        Check d = new Check().keep(0, Check.fixed("B", 1));
        d.load(0, of(251));
        for (int i = 0; i < 251; i++) {
            d.teller.read(0, i);
            Check.due("letter " + i, d.teller.letter(i, 0) + " " + d.teller.letter(0, 1), i + " " + i);
        }
    }

    /** Promise 10: "IndexOutOfBoundsException; IllegalStateException." */
    private static void refusedReads() {
        for (int p : NO_PLACES) {
            for (int i : new int[] {0, 2, 3, -1, Integer.MAX_VALUE}) {
                unchanged("read(" + p + ", " + i + ")", c -> c.teller.read(p, i), INDEX);
            }
        }
        for (int i : new int[] {-1, -2, 3, 4, 12, 4096, Integer.MIN_VALUE, Integer.MAX_VALUE}) {
            for (int p : new int[] {0, 1, 2, 5, 6}) {
                unchanged("read(" + p + ", " + i + ")", c -> c.teller.read(p, i), INDEX);
            }
        }
        for (int i = 0; i < 3; i++) {
            int row = i;
            unchanged("read(5, " + row + ")", c -> c.teller.read(5, row), STATE);
            unchanged("read(6, " + row + ")", c -> c.teller.read(6, row), STATE);
        }
        Consumer<Check> noRows = c -> c.keep(0, "\"int\"").keep(Twins.BYTES, Check.fixed("B", 1));
        Twins.unchanged("read(0, 0) of no rows", noRows, c -> c.teller.read(0, 0), INDEX);
        Twins.unchanged("read(1, 0) of no rows", noRows, c -> c.teller.read(1, 0), INDEX);
    }

    /** "UNRESOLVED, or FULL (a byte behind 4096) ..., and OUT is empty" */
    private static void readsThatFail() {
        Consumer<Check> emptied = c -> {
            past(c);
            c.keep(5, "\"boolean\"");
            c.teller.read(5, 0);
            c.tape(Check.latin("[\"int\",\"long\"]"));
        };
        for (int i = 0; i < 3; i++) {
            int row = i;
            Twins.unchanged("read as null, OUT is empty already", emptied, c -> c.teller.read(2, row), RecordTeller.UNRESOLVED);
        }
        Check c = new Check();
        past(c);
        Check.due("OUT", c.teller.size(1), 8);
        Check.due("as null", c.teller.read(2, 0), RecordTeller.UNRESOLVED);
        Check.due("OUT", c.teller.size(1) + c.letters(1), "0");
        Check.due("no letter", Check.answer(() -> c.teller.letter(0, 1)), INDEX);
        Check.due("rows stay", c.letters(0), "2 2 65 0 0 4 0 4 66 67 0");
        Check.due("and can be told", c.read(1, 0), "2 0 2 65 0");
    }

    /** "Row i, told again as a place's schema, comes to OUT: how many bytes" */
    private static void readsThatStand() {
        Check c = new Check();
        past(c);
        String[] due = {"2 0 2 65 0", "0", "4 0 0 0 4 66 67 0"};
        for (int k = 0; k < 3; k++) {
            for (int i : new int[] {0, 1, 2, 1, 0, 2}) {
                Check.due("row " + i, c.teller.read(1, i), due[i].split(" ").length);
                Check.due("OUT", c.letters(1), due[i]);
            }
        }
        Check.due("tape stays", c.teller.schema(5), 0);
        Check.due("place of none", c.teller.place(), -1);
    }

    /** Promise 11: "OUT stays", "IndexOutOfBoundsException; IllegalStateException." */
    private static void alls() {
        for (int p : NO_PLACES) {
            unchanged("all(" + p + ")", c -> c.teller.all(p), INDEX);
        }
        unchanged("all(5)", c -> c.teller.all(5), STATE);
        unchanged("all(6)", c -> c.teller.all(6), STATE);
        unchanged("all(0)", c -> c.teller.all(0), 3);
        unchanged("all(1)", c -> c.teller.all(1), 3);
        unchanged("all(2)", c -> c.teller.all(2), 0);
        unchanged("all(3)", c -> c.teller.all(3), 0);
        Consumer<Check> noRows = c -> c.keep(0, "\"int\"").keep(Twins.BYTES, Check.fixed("B", 1));
        Twins.unchanged("all(0) of no rows", noRows, c -> c.teller.all(0), 0);
        Twins.unchanged("all(1) of no rows", noRows, c -> c.teller.all(1), STATE);
    }

    /** Promise 12: "Whether what is kept at a place fits what is kept at another one (or the same). IndexOutOfBoundsException; IllegalStateException." */
    private static void fits() {
        for (int p : NO_PLACES) {
            for (int q : new int[] {0, 5, 7, 8, -1}) {
                unchanged("fits(" + p + ", " + q + ")", c -> c.teller.fits(p, q), INDEX);
                unchanged("fits(" + q + ", " + p + ")", c -> c.teller.fits(q, p), INDEX);
            }
        }
        for (int q : new int[] {0, 3, 5, 6, 7}) {
            unchanged("fits(5, " + q + ")", c -> c.teller.fits(5, q), STATE);
            unchanged("fits(" + q + ", 6)", c -> c.teller.fits(q, 6), STATE);
        }
        unchanged("fits(0, 1)", c -> c.teller.fits(0, 1), true);
        unchanged("fits(0, 2)", c -> c.teller.fits(0, 2), false);
        for (int p : new int[] {0, 1, 2, 3, 4, 7}) {
            unchanged("fits(" + p + ", " + p + ")", c -> c.teller.fits(p, p), true);
        }
    }

    /** "of several exceptions the one named first is thrown (but of letter(), as told there)" */
    private static void namedFirst() {
        Check c = new Check();
        past(c);
        Check.due("no such row, and a place that keeps none", Check.answer(() -> c.teller.read(5, 3)), INDEX);
        Check.due("no such place, and one that keeps none", Check.answer(() -> c.teller.fits(5, 8)), INDEX);
        Check.due("the other way", Check.answer(() -> c.teller.fits(8, 5)), INDEX);
        Check.due("no such byte of what is none", Check.answer(() -> c.teller.letter(-1, -1)), ARGUMENT);
    }

    /** Objects know nothing of one another. */
    private static void objectsApart() {
        Check one = new Check();
        past(one);
        Check two = new Check();
        Check.due("schemas", Check.answer(() -> two.teller.all(0)), STATE);
        Check.due("rows, OUT, tape", two.teller.rows() + two.teller.size(0) + two.teller.size(1) + two.tapeLength(), 0);
        two.keep(0, "\"boolean\"");
        two.load(0, 1);
        two.teller.read(0, 0);
        Check.due("the first's rows", one.letters(0), "2 2 65 0 0 4 0 4 66 67 0");
        Check.due("its OUT", one.letters(1), "4 0 0 0 4 66 67 0");
        Check.due("its tape", one.teller.schema(0), 0);
    }

    /** "An object is used for at most 512 calls": the last of them answers as the first did. */
    private static void calls512() {
        RecordTeller t = new RecordTeller();
        int calls = 0;
        for (int k = 0; k < 64; k++) {
            // "int" and blanks, then two rows of it.
            Check.due("feed", t.feed(0x22696e74, 0x22202020, 0x20202020, 0x20202020, 0x20202020), 20);
            Check.due("schema", t.schema(k % 8), 0);
            Check.due("feed", t.feed(0x05070000, 0, 0, 0, 0), 20);
            t.end(2);
            Check.due("load", t.load(k % 8), 2);
            Check.due("fits", t.fits(k % 8, k % 8), true);
            Check.due("read", t.read(k % 8, 1), 1);
            Check.due("letter", t.letter(0, 1), 7);
            calls += 8;
        }
        Check.due("calls", calls, 512);
    }
}
