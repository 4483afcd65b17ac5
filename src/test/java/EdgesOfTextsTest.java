import java.util.ArrayList;
import java.util.List;

/** Each sentence of the document's part on texts (FAULT 1) that names an edge: what just can stand, and what just cannot. */
public final class EdgesOfTextsTest {
    private static final String BLANKS = "\t\n\r ";
    private static final String DIGITS = "0123456789";
    private static final String VALUES = BLANKS + DIGITS + "{[\"-tfn";
    private static final String HEX = DIGITS + "abcdefABCDEF";
    private static final int TEXTS = 80;

    private static Check pool = new Check();
    private static int used = 0;

    public static void main(String[] args) {
        atMost4096Bytes();
        placesAreFromNought();
        blanksAroundAndBetween();
        noBlanksWithin();
        firstByteThatCannotStand();
        tooEarlyAnEnd();
        bytesThatStandForThemselves();
        escapes();
        fourDigits();
        numbersInBounds();
        numbersOutOfBounds();
        numbersWhatever();
        brackets();
        sameStrings();
        whatIsSeenFirst();
        Check.done();
    }

    /** The answer to a text, and its place; an object is used for some texts only. */
    private static String schema(String text) {
        used++;
        if (used % TEXTS == 0) {
            pool = new Check();
        }
        return pool.schema(0, text);
    }

    private static void due(String text, String due) {
        Check.due(text, schema(text), due);
    }

    /** A schema whose member "x" does not count, whatever its value is. */
    private static String within(String value) {
        return "{\"type\":\"int\",\"x\":" + value + "}";
    }

    /** "The tape has at most 4096 bytes." */
    private static void atMost4096Bytes() {
        due("\"null\"" + " ".repeat(4090), "0");
        due("\"nul\"" + " ".repeat(4091), "3@0");
        due(" ".repeat(4091) + "\"int\"", "0");
        due(" ".repeat(4091) + "\"iny\"", "3@4091");
        due(" ".repeat(4095) + "x", "1@4095");
        due(" ".repeat(4095) + "[", "1@4096");
        due(" ".repeat(4096), "1@4096");
        due("\"int\"" + " ".repeat(4090) + "x", "1@4095");
        due("\"" + "a".repeat(4094) + "\"", "3@0");
        due("\"" + "a".repeat(4095), "1@4096");
        due("\"" + "\\u0061".repeat(682) + "bbb", "1@4096");
        due("[" + "1,".repeat(2047) + "]", "1@4095");
        // As many values and members as there can be.
        due("{\"x\":[" + "1,".repeat(2037) + "1],\"type\":\"int\"}", "0");
        due("{\"x\":[" + "1,".repeat(2037) + "1],\"type\":\"foo\"}", "3@" + (4096 - 6));
        due("{\"x\":" + "[".repeat(23) + "1,".repeat(2014) + "1" + "]".repeat(23) + ",\"type\":\"int\"}", "0");
        StringBuilder members = new StringBuilder();
        for (int k = 0; k < 583; k++) {
            members.append('"').append((char) ('A' + k / 26)).append((char) ('A' + k % 26)).append("\":1,");
        }
        due("{" + members + "\"type\":\"int\"}", "0");
        due("{" + members + "\"AA\":1}", "1@" + (1 + members.length()));
        due("-" + "1".repeat(4095), "1@0");
        due("{" + "\"\":1" + " ".repeat(4090) + "}", "7@0");
    }

    /** "PLACES in it are from 0 on." */
    private static void placesAreFromNought() {
        due("x", "1@0");
        due(" x", "1@1");
        due("", "1@0");
        due(" ", "1@1");
        due("7", "2@0");
        due("\n7", "2@1");
    }

    /** "A TEXT is a VALUE with blanks (9 10 13 32) around it and between all of its parts." */
    private static void blanksAroundAndBetween() {
        String[] parts = {"{", "\"items\"", ":", "[", "\"int\"", ",", "{", "\"x\"", ":", "-1", ",", "\"type\"", ":", "\"null\"", ",",
            "\"y\"", ":", "[", "]", ",", "\"z\"", ":", "{", "}", "}", "]", ",", "\"type\"", ":", "\"array\"", "}"};
        for (int gap = 0; gap <= parts.length; gap++) {
            String before = String.join("", java.util.Arrays.copyOf(parts, gap));
            String behind = String.join("", java.util.Arrays.copyOfRange(parts, gap, parts.length));
            for (char b : BLANKS.toCharArray()) {
                due(before + b + behind, "0");
            }
            due(before + BLANKS + BLANKS + behind, "0");
            for (int b : new int[] {0, 1, 8, 11, 12, 14, 31, 33, 127, 128, 133, 160, 255}) {
                due(before + (char) b + behind, "1@" + before.length());
            }
        }
    }

    private static void noBlanksWithin() {
        for (String value : new String[] {"t^ rue", "fals^\ne", "nul^\tl", "-^ 1", "1 ^0", "0 ^.", "\"\\^ n\"", "\"\\u^ 0041\"",
            "\"\\u00^ 41\"", "\"^\t\"", "\"^\n\"", "\"^\r\""}) {
            Check.fault(1, within(value));
        }
        due(within("\" \""), "0");
    }

    /** Behind a beginning just these bytes can stand; another one is FAULT 1 there. */
    private static void canStand(String beginning, String these) {
        for (int b = 0; b < 256; b++) {
            String text = beginning + (char) b;
            String got = schema(text);
            boolean stands = these.indexOf(b) >= 0;
            Check.due("whether " + b + " can stand behind " + beginning, !got.equals("1@" + beginning.length()), stands);
            // What stands there is a whole text then, or one that ends too early.
            boolean whole = !got.startsWith("1@") || got.equals("1@" + text.length());
            Check.due("what " + text + " answers: " + got, whole, stands);
        }
    }

    /** "FAULT 1: the first byte that cannot stand where it does" */
    private static void firstByteThatCannotStand() {
        canStand("", VALUES);
        canStand(" ", VALUES);
        canStand("[", VALUES + "]");
        canStand("[\n", VALUES + "]");
        canStand("[[]", BLANKS + ",]");
        canStand("[true", BLANKS + ",]");
        canStand("[\"\" ", BLANKS + ",]");
        canStand("[null,", VALUES);
        canStand("[{}, ", VALUES);
        canStand("[10", DIGITS + BLANKS + ",]");
        canStand("[0", BLANKS + ",]");
        canStand("[-0", BLANKS + ",]");
        canStand("[]", BLANKS);
        canStand("[[]]", BLANKS);
        canStand("{", BLANKS + "\"}");
        canStand("{ ", BLANKS + "\"}");
        canStand("{\"a\"", BLANKS + ":");
        canStand("{\"a\"\t", BLANKS + ":");
        canStand("{\"a\":", VALUES);
        canStand("{\"a\":\r", VALUES);
        canStand("{\"a\":{}", BLANKS + ",}");
        canStand("{\"a\":false", BLANKS + ",}");
        canStand("{\"a\":0", BLANKS + ",}");
        canStand("{\"a\":-9", DIGITS + BLANKS + ",}");
        canStand("{\"a\":1,", BLANKS + "\"");
        canStand("{\"a\":1, ", BLANKS + "\"");
        canStand("{\"a\":1,\"b\"", BLANKS + ":");
        canStand("{}", BLANKS);
        canStand("{\"a\":[1]}", BLANKS);
        canStand("-", DIGITS);
        canStand("0", BLANKS);
        canStand("-0", BLANKS);
        canStand("1", DIGITS + BLANKS);
        canStand("-90", DIGITS + BLANKS);
        canStand("\"int\"", BLANKS);
        for (String word : new String[] {"true", "false", "null"}) {
            for (int k = 1; k < word.length(); k++) {
                canStand(word.substring(0, k), word.substring(k, k + 1));
            }
            canStand(word, BLANKS);
        }
    }

    /** "(the length, if the tape ends too early)" */
    private static void tooEarlyAnEnd() {
        String whole = " { \"type\" : [ 12 , -3 , \"\\u00e9\\n\" ] , \"\\\"\" : { } , \"b\":[true,false,null,[],{\"c\":0}]}";
        for (int k = 0; k < whole.length(); k++) {
            due(whole.substring(0, k), "1@" + k);
        }
        due(whole, "7@1");
        due("-", "1@1");
        due("\"int", "1@4");
        due("fals", "1@4");
        due("[-", "1@2");
    }

    /** "32 .. 126 but " and \ stand for themselves" */
    private static void bytesThatStandForThemselves() {
        StringBuilder all = new StringBuilder();
        for (int b = 0; b < 256; b++) {
            all.append(b >= 32 && b <= 126 ? (char) b : "");
        }
        canStand("\"", all.toString());
        canStand("\"a", all.toString());
        canStand("{\"", all.toString());
        String plain = all.toString().replace("\"", "").replace("\\", "");
        Check.due("how many stand for themselves", plain.length(), 93);
        Check.due("what they tell", told(plain), written(plain));
    }

    /** The bytes that a string's text tells, read as a field's default. */
    private static String told(String text) {
        Check c = new Check().keep(0, Check.record("R", "k=\"boolean\""));
        c.keep(1, "{\"type\":\"record\",\"name\":\"R\",\"fields\":[{\"name\":\"s\",\"type\":\"string\",\"default\":\"" + text + "\"}]}");
        c.load(0, 1);
        String read = c.read(1, 0);
        int length = Integer.parseInt(read.split(" ")[0]);
        return read.substring(read.indexOf(' ', length > 127 ? read.indexOf(' ') + 1 : 0) + 1);
    }

    private static String written(String letters) {
        List<String> all = new ArrayList<>();
        for (char b : letters.toCharArray()) {
            all.add(String.valueOf((int) b));
        }
        return String.join(" ", all);
    }

    /** "\" \\ \/ \b \f \n \r \t for 34 92 47 8 12 10 13 9" */
    private static void escapes() {
        canStand("\"\\", "\"\\/bfnrtu");
        canStand("\"a\\", "\"\\/bfnrtu");
        canStand("{\"\\", "\"\\/bfnrtu");
        Check.due("what they tell", told("\\\"\\\\\\/\\b\\f\\n\\r\\t"), "34 92 47 8 12 10 13 9");
        Check.due("each one", told("\\\"") + "," + told("\\\\") + "," + told("\\/") + "," + told("\\b") + "," + told("\\f") + ","
                + told("\\n") + "," + told("\\r") + "," + told("\\t"), "34,92,47,8,12,10,13,9");
        Check.due("b f n r t alone", told("bfnrt/"), "98 102 110 114 116 47");
        due("\"\\\"", "1@3");
        due("\"\\\\\"", "3@0");
        due("\"\\\\\\\"", "1@5");
    }

    /** "\\u and four of 0-9 a-f A-F for that number, 255 at most" */
    private static void fourDigits() {
        canStand("\"\\u", HEX);
        canStand("\"\\u0", HEX);
        canStand("\"\\u00", HEX);
        for (String s : new String[] {"\"\\u00a", "\"\\u00F"}) {
            canStand(s, HEX);
        }
        StringBuilder small = new StringBuilder();
        StringBuilder big = new StringBuilder();
        StringBuilder all = new StringBuilder();
        for (int b = 0; b < 256; b++) {
            small.append("\\u00").append(Integer.toHexString(b | 256).substring(1));
            big.append("\\u00").append(Integer.toHexString(b | 256).substring(1).toUpperCase());
            all.append((char) b);
        }
        Check.due("all of them", told(small.toString()), written(all.toString()));
        Check.due("in big letters", told(big.toString()), written(all.toString()));
        Check.due("letters behind them", told("\\u00412\\u004a0\\u000a"), "65 50 74 48 10");
        due("\"\\u00ff\"", "3@0");
        due("\"\\u0100\"", "1@1");
        due("\"\\u0101\"", "1@1");
        due("\"\\u1000\"", "1@1");
        due("\"\\uffff\"", "1@1");
        due("\"\\uFFFF\"", "1@1");
        due("\"abc\\u00fe\\u0100\"", "1@10");
    }

    /** What a number is, read as the default of a field of LONG: its varint's bytes. */
    private static String number(String text) {
        Check c = new Check().keep(0, Check.record("R", "k=\"boolean\""));
        c.keep(1, Check.record("R", "n=\"long\"=" + text));
        c.load(0, 1);
        return c.read(1, 0);
    }

    /** "A NUMBER: perhaps -, then 0, or digits the first of which is not 0; -2^63 .. 2^63 - 1." */
    private static void numbersInBounds() {
        long[] some = {0, 1, 9, 10, 99, 100, 127, 128, 255, 256, 65535, 65536, Integer.MAX_VALUE, 1L + Integer.MAX_VALUE,
            (1L << 32) - 1, 1L << 32, 999999999999999999L, 1000000000000000000L, 922337203685477579L, 922337203685477580L, 922337203685477581L,
            9223372036854775799L, 9223372036854775800L, 9223372036854775806L, Long.MAX_VALUE};
        for (long v : some) {
            Check.due("number " + v, number("" + v), Check.varint(v));
            Check.due("number " + -v, number("-" + v), Check.varint(-v));
            Check.due("number " + (-v - 1), number("" + (-v - 1)), Check.varint(-v - 1));
        }
        Check.due("-0", number("-0"), "0");
        due(within("-9223372036854775808"), "0");
        due(within("9223372036854775807"), "0");
    }

    /** "a number out of its bounds, at its first byte" */
    private static void numbersOutOfBounds() {
        for (String s : new String[] {"9223372036854775808", "-9223372036854775809", "9223372036854775809", "-9223372036854775810",
            "9223372036854775810", "9223372036854775817", "9223372036854775818", "9999999999999999999", "-9999999999999999999",
            "10000000000000000000", "-10000000000000000000", "18446744073709551615", "18446744073709551616", "18446744073709551617",
            "-18446744073709551616", "36893488147419103232", "92233720368547758070", "-92233720368547758080", "92233720368547758079",
            "184467440737095516160", "340282366920938463463374607431768211456", "-340282366920938463463374607431768211456"}) {
            due(s, "1@0");
            due(" " + s + " ", "1@1");
            Check.fault(1, within("^" + s));
            due("[1," + s + "]", "1@3");
            due("[" + s, "1@1");
            // "a number when all its digits are there (whatever stands behind)"
            due("[" + s + "x", "1@1");
            due("[" + s + ".5]", "1@1");
            due("[" + s + "-", "1@1");
            due("{\"a\":" + s + "\u00ff", "1@5");
        }
        due("1" + "0".repeat(4095), "1@0");
        due("9".repeat(4096), "1@0");
    }

    private static void numbersWhatever() {
        due("9223372036854775807x", "1@19");
        due("-9223372036854775808x", "1@20");
        due("9223372036854775807", "2@0");
        due("-9223372036854775808", "2@0");
        due("00", "1@1");
        due("-00", "1@2");
        due("01", "1@1");
        due("-01", "1@2");
        due("09223372036854775808", "1@1");
        due("--1", "1@1");
        due("+1", "1@0");
        due("1.0", "1@1");
        due("1e1", "1@1");
        due("1E1", "1@1");
    }

    /** "a 25th { or [ within one another" */
    private static void brackets() {
        for (String pair : new String[] {"[]", "{}", "[{", "{["}) {
            StringBuilder open = new StringBuilder();
            List<Integer> places = new ArrayList<>();
            String close = "";
            for (int k = 0; k < 26; k++) {
                boolean list = pair.equals("[]") || pair.equals("[{") && k % 2 == 0 || pair.equals("{[") && k % 2 == 1;
                places.add(open.length());
                open.append(list ? "[" : "{\"a\":");
                close = (list ? "]" : "}") + close;
            }
            String text24 = open.substring(0, places.get(24)) + "1" + close.substring(2);
            due(text24, pair.equals("[]") ? "4@1" : pair.equals("[{") ? "7@1" : "7@0");
            String text25 = open.substring(0, places.get(25)) + "1" + close.substring(1);
            due(text25, "1@" + places.get(24));
            due(open.toString() + "1" + close, "1@" + places.get(24));
            due(open.substring(0, places.get(24) + 1), "1@" + places.get(24));
            due(open.substring(0, places.get(24)) + "{]", "1@" + places.get(24));
            due(open.substring(0, places.get(24)) + "[}", "1@" + places.get(24));
            due(open.substring(0, places.get(24)), "1@" + places.get(24));
        }
        // Within one another: those that are closed do not count.
        due(within("[" + "[],".repeat(30) + "{\"a\":[]}]"), "0");
        due(within("[" + "{},".repeat(30) + "[{}]]"), "0");
        due(within("[".repeat(22) + "[],{},[]" + "]".repeat(22)), "0");
        Check.fault(1, within("[".repeat(22) + "[],{},[^[]]" + "]".repeat(22)));
        // Brackets in strings are none.
        due(within("[\"" + "[{".repeat(30) + "\"]"), "0");
    }

    /** "a member's string that its object has already, at its "" and "Strings are the same by the bytes that they tell." */
    private static void sameStrings() {
        Check.fault(1, "{\"a\":1,^\"a\":2}");
        Check.fault(1, "{\"\":1,^\"\":2}");
        Check.fault(1, "{\"a\":1,\"b\":2,\"c\":3,^\"b\":4}");
        Check.fault(1, "{\"a\":1,\"b\":2, ^\"a\" :4}");
        Check.fault(1, "{\"x\":{\"a\":1,\"b\":{\"a\":1,^\"a\":2}}}");
        Check.fault(1, "[{\"a\":1},{\"a\":1,^\"a\":2}]");
        Check.fault(7, "^{\"a\":1,\"A\":2,\"\":3,\"aa\":4,\"b\":{\"a\":1},\"a \":5}");
        Check.fault(7, "^{\"a\":{\"a\":{\"a\":1}},\"b\":[{\"a\":1},{\"a\":2}]}");
        String[][] same = {{"a", "\\u0061"}, {"\\u004A", "\\u004a"}, {"\\/", "/"}, {"\\/", "\\u002f"}, {"\\\"", "\\u0022"}, {"\\\\", "\\u005C"},
            {"\\b", "\\u0008"}, {"\\f", "\\u000c"}, {"\\n", "\\u000a"}, {"\\r", "\\u000D"}, {"\\t", "\\u0009"}, {"abc", "a\\u0062c"},
            {"\\u0000", "\\u0000"}, {"\\u00ff", "\\u00FF"}, {" ", "\\u0020"}};
        for (String[] two : same) {
            Check.fault(1, "{\"" + two[0] + "\":1,^\"" + two[1] + "\":2}");
            Check.fault(1, "{\"" + two[1] + "\":1,^\"" + two[0] + "\":2}");
        }
        Check.good("{\"n\":1,\"\\n\":2,\"\\\\n\":3,\"t\\u0079pe\":\"int\"}");
        String many = "{";
        for (int k = 0; k < 400; k++) {
            many += "\"" + k + "\":0,";
        }
        Check.fault(1, many + "^\"399\":0}");
        Check.fault(1, many + "^\"0\":0}");
        Check.fault(7, "^" + many + "\"400\":0}");
    }

    /** "The text is read byte by byte from the left ..., and each of these is seen when what it is told of has been read" */
    private static void whatIsSeenFirst() {
        Check.fault(1, "tru^x");
        Check.fault(1, "\"\\u00^G0\"");
        Check.fault(1, "\"\\^x\"");
        // \\u when its four are.
        Check.fault(1, "\"^\\u0100");
        Check.fault(1, "\"^\\u0100\u0001");
        Check.fault(1, "\"\\u010^");
        Check.fault(1, "\"\\u010^x");
        Check.fault(1, "\"\\uFFF^\"");
        // A member's string when it has ended.
        Check.fault(1, "{\"a\":1,^\"a\"");
        Check.fault(1, "{\"a\":1,^\"a\"x");
        Check.fault(1, "{\"a\":1,\"a^");
        Check.fault(1, "{\"a\":1,\"a^\u0000\"");
        Check.fault(1, "{\"a\":1,\"a^\n\":2}");
        Check.fault(1, "{\"a\":1,\"a\\^x\":2}");
        Check.fault(1, "{\"a\":1,\"^\\u0161\":2}");
        Check.fault(1, "{\"a\":1,^\"a\":9999999999999999999");
        // A number when all its digits are there.
        Check.fault(1, "[^9223372036854775808,\"\\u0100\"]");
        Check.fault(1, "[^9223372036854775808");
        Check.fault(1, "[\"^\\u0100\",9223372036854775808]");
        Check.fault(1, "{\"a\":^9223372036854775808,\"a\":1}");
        Check.fault(1, "{\"a\":1,^\"a\":9223372036854775808}");
        // A bracket when it is there.
        Check.fault(1, "[".repeat(24) + "^[9223372036854775808");
        Check.fault(1, "[".repeat(24) + "^9223372036854775808[");
        // FAULT 1 before all others, which are of texts without it.
        Check.fault(1, "[[],7,{},\"foo\"^");
        Check.fault(1, "{\"type\":\"foo\"}^}");
        Check.fault(1, "{}^[]");
        Check.fault(1, "7 ^7");
    }
}
