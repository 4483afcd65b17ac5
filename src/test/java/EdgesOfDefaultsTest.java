import java.util.ArrayList;
import java.util.List;

/** Each sentence of the document on the defaults of fields: which fit, which is the first that does not, and their bytes. */
public final class EdgesOfDefaultsTest {
    private static final String[] VALUES = {"null", "true", "false", "0", "\"\"", "\"a\"", "[]", "{}", "[null]", "{\"a\":null}"};

    public static void main(String[] args) {
        nulls();
        booleans();
        ints();
        longs();
        strings();
        fixeds();
        enums();
        arrays();
        maps();
        unions();
        records();
        firstThatDoesNot();
        turns();
        behindAllElse();
        orderOfDefaults();
        lengthsOfDefaults();
        deepDefaults();
        Check.done();
    }

    /** A record R whose field "d" has a type and a default; the types E, F and S are defined before it. */
    private static String field(String type, String value) {
        return Check.record("R", "e=" + Check.symbols("E", "a", "b"), "f=" + Check.fixed("F", 1), "d=" + type + "=" + value);
    }

    /** The default fits, and is told as these bytes. */
    private static void fits(String type, String value, String bytes) {
        Check c = new Check().keep(0, Check.record("R", "e=" + Check.symbols("E", "a"), "f=" + Check.fixed("F", 1)));
        c.keep(1, field(type, value));
        Check.due("row", c.load(0, 0, 7), "1");
        Check.due(type + " = " + value, c.read(1, 0), ("0 7 " + bytes).trim());
    }

    /** Of some plain values just these fit a type. */
    private static void just(String type, String... these) {
        for (String v : VALUES) {
            if (List.of(these).contains(v)) {
                Check.good(field(type, v));
            } else {
                Check.fault(12, field(type, "^" + v));
            }
        }
    }

    /** "null: null" */
    private static void nulls() {
        just("\"null\"", "null");
        just("{\"type\":\"null\"}", "null");
        fits("\"null\"", "null", "");
    }

    /** "BOOLEAN: true or false" */
    private static void booleans() {
        just("\"boolean\"", "true", "false");
        fits("\"boolean\"", "true", "1");
        fits("\"boolean\"", "false", "0");
        Check.fault(12, field("\"boolean\"", "^1"));
    }

    /** "INT, LONG: a number within 32 or 64 bits." */
    private static void ints() {
        just("\"int\"", "0");
        fits("\"int\"", "2147483647", "254 255 255 255 15");
        fits("\"int\"", "-2147483648", "255 255 255 255 15");
        fits("\"int\"", "-0", "0");
        for (String v : new String[] {"2147483648", "-2147483649", "2147483649", "4294967295", "4294967296", "4294967297", "-4294967296",
            "8589934592", "9223372036854775807", "-9223372036854775808", "-9223372036854775807"}) {
            Check.fault(12, field("\"int\"", "^" + v));
        }
    }

    private static void longs() {
        just("\"long\"", "0");
        fits("\"long\"", "2147483648", "128 128 128 128 16");
        fits("\"long\"", "-2147483649", "129 128 128 128 16");
        fits("\"long\"", "9223372036854775807", "254 255 255 255 255 255 255 255 255 1");
        fits("\"long\"", "-9223372036854775808", "255 255 255 255 255 255 255 255 255 1");
        // Beyond 64 bits there is no number.
        Check.fault(1, field("\"long\"", "^9223372036854775808"));
        Check.fault(1, field("\"long\"", "^-9223372036854775809"));
    }

    /** "BYTES, STRING: a string." */
    private static void strings() {
        for (String type : new String[] {"\"bytes\"", "\"string\""}) {
            just(type, "\"\"", "\"a\"");
            fits(type, "\"\"", "0");
            fits(type, "\"\\u0000\\u00ff\\n\"", "6 0 255 10");
            fits(type, "\"" + "x".repeat(63) + "\"", "126" + " 120".repeat(63));
            fits(type, "\"" + "x".repeat(64) + "\"", "128 1" + " 120".repeat(64));
        }
    }

    /** "FIXED: one of just its size." */
    private static void fixeds() {
        just("\"F\"", "\"a\"");
        fits("\"F\"", "\"\\u00e9\"", "233");
        Check.fault(12, field("\"F\"", "^\"ab\""));
        for (int n : new int[] {0, 1, 2, 63, 64}) {
            fits(Check.fixed("G", n), "\"" + "x".repeat(n) + "\"", "120 ".repeat(n).trim());
            Check.fault(12, field(Check.fixed("G", n), "^\"" + "x".repeat(n + 1) + "\""));
            if (n > 0) {
                Check.fault(12, field(Check.fixed("G", n), "^\"" + "x".repeat(n - 1) + "\""));
            }
        }
        just(Check.fixed("G", 0), "\"\"");
    }

    /** "ENUM: one of its symbols." */
    private static void enums() {
        just("\"E\"", "\"a\"");
        fits("\"E\"", "\"b\"", "2");
        fits("\"E\"", "\"\\u0061\"", "0");
        for (String v : new String[] {"\"c\"", "\"A\"", "\"ab\"", "\"E\"", "1"}) {
            Check.fault(12, field("\"E\"", "^" + v));
        }
        // Its own default does not help.
        Check.fault(12, field(Check.symbols("G", "=p", "q"), "^\"r\""));
    }

    /** "An array: a list whose values all fit" */
    private static void arrays() {
        just(Check.array("\"null\""), "[]", "[null]");
        fits(Check.array("\"int\""), "[]", "0");
        fits(Check.array("\"int\""), "[1,-1,64]", "6 2 1 128 1 0");
        fits(Check.array("\"null\""), "[" + "null,".repeat(62) + "null]", "126 0");
        fits(Check.array("\"null\""), "[" + "null,".repeat(63) + "null]", "128 1 0");
        fits(Check.array(Check.array("\"boolean\"")), "[[],[true,false],[]]", "6 0 4 1 0 0 0 0");
    }

    /** "a map: an object whose values all fit", "a map's in order of the text" */
    private static void maps() {
        just(Check.map("\"null\""), "{}", "{\"a\":null}");
        fits(Check.map("\"int\""), "{}", "0");
        fits(Check.map("\"int\""), "{\"b\":1,\"a\":2,\"\":3}", "6 2 98 2 2 97 4 0 6 0");
        fits(Check.map("\"null\""), "{\"\\u00ff\\t\":null}", "2 4 255 9 0");
        fits(Check.map(Check.map("\"int\"")), "{\"k\":{},\"j\":{\"k\":0}}", "4 2 107 0 2 106 2 2 107 0 0 0");
    }

    /** "A union: what fits its first branch." */
    private static void unions() {
        just("[\"null\",\"int\",\"string\"]", "null");
        just("[\"int\",\"null\"]", "0");
        just("[\"F\",\"bytes\"]", "\"a\"");
        just("[" + Check.array("\"null\"") + "," + Check.map("\"null\"") + "]", "[]", "[null]");
        just("[" + Check.map("\"null\"") + "," + Check.array("\"null\"") + "]", "{}", "{\"a\":null}");
        fits("[\"null\",\"int\"]", "null", "0");
        fits("[\"int\",\"null\"]", "-1", "0 1");
        fits(Check.array("[\"string\",\"null\"]"), "[\"\",\"z\"]", "4 0 0 0 2 122 0");
        Check.fault(12, field("[\"int\",\"long\"]", "^2147483648"));
        Check.fault(12, field(Check.array("[\"string\",\"null\"]"), "[\"\",^null]"));
    }

    /** "A record: an object that has a member for each of its fields, which fits." */
    private static void records() {
        just(Check.record("S"), "{}", "{\"a\":null}");
        just(Check.record("S", "a=\"null\""), "{\"a\":null}");
        just(Check.record("S", "b=\"null\""));
        String s = Check.record("S", "x=\"int\"", "y=\"boolean\"");
        fits(s, "{\"x\":1,\"y\":true}", "2 1");
        fits(s, "{\"y\":true,\"x\":1}", "2 1");
        fits(s, "{\"y\":true,\"z\":[7],\"\":{},\"x\":1}", "2 1");
        fits(Check.record("S"), "{}", "");
        Check.fault(12, field(s, "^{}"));
        Check.fault(12, field(s, "^{\"y\":true}"));
        Check.fault(12, field(s, "^{\"x\":1}"));
        Check.fault(12, field(s, "^{\"X\":1,\"y\":true}"));
        Check.fault(12, field(s, "{\"x\":^true,\"y\":1}"));
        Check.fault(12, field(s, "{\"y\":^1,\"x\":1}"));
        // A field's default does not stand for a member that lacks.
        Check.fault(12, field(Check.record("S", "x=\"int\"=1"), "^{}"));
    }

    /** "12 at the first value that does not (lists and maps in order of the text, records in order of their fields)" */
    private static void firstThatDoesNot() {
        Check.fault(12, field(Check.array("\"int\""), "[^null,null]"));
        Check.fault(12, field(Check.array("\"int\""), "[0,1,^2147483648,null]"));
        Check.fault(12, field(Check.map("\"int\""), "{\"z\":^null,\"a\":null}"));
        Check.fault(12, field(Check.map("\"int\""), "{\"z\":0,\"y\":^\"\",\"a\":null}"));
        String s = Check.record("S", "x=\"int\"", "y=\"int\"", "z=\"int\"");
        Check.fault(12, field(s, "{\"z\":null,\"y\":null,\"x\":^null}"));
        Check.fault(12, field(s, "{\"z\":null,\"y\":^null,\"x\":0}"));
        Check.fault(12, field(s, "{\"z\":^null,\"y\":0,\"x\":0}"));
        Check.fault(12, field(Check.array(s), "[{\"z\":0,\"y\":0,\"x\":0},{\"z\":null,\"y\":0,\"x\":^[]}]"));
        Check.fault(12, field(Check.map(Check.array("\"E\"")), "{\"b\":[\"a\",\"b\"],\"a\":[\"a\",^\"c\",7]}"));
    }

    /** "at the object if a member lacks, when its turn comes" */
    private static void turns() {
        String s = Check.record("S", "x=\"int\"", "y=\"int\"", "z=\"int\"");
        Check.fault(12, field(s, "^{\"y\":null,\"z\":null}"));
        Check.fault(12, field(s, "{\"x\":^null,\"z\":null}"));
        Check.fault(12, field(s, "^{\"x\":0,\"z\":null}"));
        Check.fault(12, field(s, "{\"x\":0,\"y\":^null}"));
        Check.fault(12, field(s, "^{\"x\":0,\"y\":0}"));
        Check.fault(12, field(Check.array(s), "[{\"x\":0,\"y\":0,\"z\":0},^{\"x\":0,\"y\":0},null]"));
        Check.fault(12, field(Check.array(s), "[{\"x\":^null},{}]"));
        Check.fault(12, Check.record("R", "a=[\"null\",\"R\"]=null", "b=\"R\"={\"b\":{\"b\":^{\"a\":null},\"a\":null},\"a\":null}"));
    }

    /** "Then the members "default" of all fields": all else is looked at before them. */
    private static void behindAllElse() {
        Check.fault(3, Check.record("R", "a=\"int\"=null", "b=^\"foo\""));
        Check.fault(11, Check.record("R", "a=\"int\"=null", "b=\"int\"").replace("{\"name\":\"b\",\"type\":\"int\"}", "^7"));
        Check.fault(12, "[" + Check.record("R", "a=\"int\"=null") + "," + Check.symbols("E", "a").replace("}", ",\"default\":^1}") + "]");
        Check.fault(6, "[" + Check.record("R", "a=\"int\"=null") + ",\"int\",^\"int\"]");
        // A record that its own field's default is of is whole by then.
        Check.fault(12, Check.record("R", "a=\"R\"=^{}", "b=\"int\""));
        Check.fault(12, Check.record("R", "a=" + Check.array("\"R\"") + "=[^{\"a\":[]}]", "b=\"int\""));
        Check.good(Check.record("R", "a=" + Check.array("\"R\"") + "=[{\"a\":[],\"b\":0}]", "b=\"int\""));
    }

    /**
     * "a field's behind those of the fields that are told within its type there (a name that stands for one has none
     * in it), else in the order in which they were looked at": all are wrong at first, and mended one by one.
     */
    private static void orderOfDefaults() {
        String[] bad = {"null", "null", "null", "null", "null", "1234", "null", "{ } ", "null", "null"};
        String[] fine = {"1234", "{ } ", "[ ] ", "1234", "true", "null", "\"\"  ", "null", "5678", "0   "};
        String text = Check.record("R",
                "a=" + Check.array(Check.record("S", "x=\"int\"=<0>", "y=" + Check.map(Check.record("T", "z=[\"null\",\"int\"]")) + "=<1>")) + "=<2>",
                "b=[\"null\"," + Check.record("U", "w=[\"long\"]=<3>", "v=\"boolean\"=<4>") + "]=<5>",
                "c=" + Check.map(Check.map("\"S\"")),
                "d=\"string\"=<6>",
                "e=[\"null\",\"R\"]=<7>",
                "f=" + Check.record("V", "s=" + Check.array("\"V\""), "t=\"int\"=<8>"),
                "g=" + Check.map("\"V\""),
                "h=\"int\"=<9>");
        for (int mended = 0; mended <= bad.length; mended++) {
            String s = text;
            int place = text.indexOf("<" + mended + ">");
            for (int k = 0; k < bad.length; k++) {
                place += text.indexOf("<" + k + ">") < text.indexOf("<" + mended + ">") ? 1 : 0;
                s = s.replace("<" + k + ">", k < mended ? fine[k] : bad[k]);
            }
            Check.due(mended + " defaults mended", new Check().schema(0, s), mended == bad.length ? "0" : "12@" + place);
        }
        // The inner ones come first even where the outer one stands before them in the text.
        String outer = "{\"type\":\"record\",\"name\":\"R\",\"fields\":[{\"default\":null,\"name\":\"a\",\"type\":"
                + Check.record("S", "x=\"int\"=^null") + "}]}";
        Check.fault(12, outer);
        Check.fault(12, outer.replace("^null", "0").replace("{\"default\":null", "{\"default\":^null"));
        // A name has none in it.
        Check.fault(12, Check.record("R", "a=" + Check.array("\"R\"") + "=^null", "b=\"int\"=null"));
        Check.fault(12, Check.record("R", "a={\"type\":\"R\"}=^null", "b=\"int\"=null"));
    }

    /** Defaults as long as a text has room for, and such as are told in more bytes than their text has. */
    private static void lengthsOfDefaults() {
        String text = "{\"type\":\"record\",\"name\":\"R\",\"fields\":[{\"name\":\"s\",\"type\":\"bytes\",\"default\":\"\"}]}";
        int room = 4096 - text.length();
        Check c = new Check().keep(0, Check.record("R", "k=\"boolean\""));
        c.keep(1, text.replace("\"\"}", "\"" + "z".repeat(room) + "\"}"));
        c.load(0, 1);
        Check.due("bytes of the longest string", c.teller.read(1, 0), 2 + room);
        Check.due("its last", c.teller.letter(1 + room, 1), (int) 'z');
        // Four letters tell an array of five bytes; two bytes tell how many there are, one is the end.
        String many = "u=" + Check.array("[" + Check.array("[\"int\"]") + "]") + "=[" + "[0],".repeat(817) + "[0]]";
        String[] tails = {"", "a", "ab", "abc", "abcd"};
        for (String tail : tails) {
            c.keep(1, Check.record("R", many, "v=\"string\"=\"" + tail + "\""));
            int bytes = 2 + 818 * 5 + 1 + 1 + tail.length();
            Check.due(bytes + " bytes of defaults", c.teller.read(1, 0), bytes <= 4096 ? bytes : RecordTeller.FULL);
            Check.due("OUT", c.teller.size(1), bytes <= 4096 ? bytes : 0);
            c.keep(1, Check.record("R", "v=\"string\"=\"" + tail + "\"", many));
            Check.due(bytes + " bytes, the array behind", c.teller.read(1, 0), bytes <= 4096 ? bytes : RecordTeller.FULL);
        }
        // A default that is longer than OUT is kept no less.
        String more = "u=" + Check.array("[" + Check.array("[\"int\"]") + "]") + "=[" + "[0],".repeat(960) + "[0]]";
        c.keep(1, Check.record("R", more, "k=\"boolean\""));
        Check.due("961 arrays", c.teller.read(1, 0), RecordTeller.FULL);
        Check.due("fits", c.teller.fits(0, 1), true);
        c.keep(1, Check.record("R", "k=\"boolean\""));
        Check.due("another schema in its stead", c.read(1, 0), "1");
    }

    /** Values as deep as a text has them. */
    private static void deepDefaults() {
        // The record, its list of fields and the field are three brackets.
        String tree = "{\"type\":\"record\",\"name\":\"R\",\"fields\":[{\"name\":\"a\",\"type\":{\"type\":\"array\",\"items\":\"R\"},\"default\":^}]}";
        StringBuilder open = new StringBuilder();
        List<String> due = new ArrayList<>();
        String close = "";
        for (int k = 0; k < 10; k++) {
            open.append("[{\"a\":");
            close = "}]" + close;
            due.add("2");
        }
        String value = open + "[]" + close;
        String text = tree.replace("^", value);
        Check c = new Check().keep(0, Check.record("R")).keep(1, text);
        c.keep(2, "[\"null\"," + Check.record("R", "k=\"boolean\"") + "]");
        c.load(2, 2, 1);
        Check.due("ten within one another", c.read(1, 0), "2 ".repeat(10) + "0" + " 0".repeat(10));
        Check.fault(12, tree.replace("^", open + "[^7]" + close));
        Check.fault(1, tree.replace("^", open + "[^[]]" + close));
        String chain = "{\"type\":\"record\",\"name\":\"R\",\"fields\":[{\"name\":\"a\",\"type\":\"R\",\"default\":"
                + "{\"a\":".repeat(20) + "^{}" + "}".repeat(20) + "}]}";
        Check.fault(12, chain);
        Check.fault(1, chain.replace("^{}", "{\"a\":^{}}"));
    }
}
