/** schema: texts, their faults 1 to 14 and where they are (marked by ^), and what a schema puts away. */
public final class Promise04Test {
    public static void main(String[] args) {
        texts();
        strings();
        numbers();
        words();
        unions();
        objects();
        names();
        fixedsAndEnums();
        records();
        fieldDefaults();
        orderOfDefaults();
        counts();
        manyFaults();
        effects();
        Check.done();
    }

    private static void texts() {
        for (String s : new String[] {"^", " ^", "\t\n\r ^", "^x", "^\u000b", "^,", "^]", "^}", "^:", "[^", "[^,", "[^}",
            "[1^", "[1^}", "[1 ^2]", "[1,^", "[1,^]", "[1,^,", "{^", "{^]", "{^,", "{^1:2}", "{\"a\"^", "{\"a\"^}",
            "{\"a\" ^1", "{\"a\":^", "{\"a\":^}", "{\"a\":^,", "{\"a\":1^", "{\"a\":1^]", "{\"a\":1,^}", "{\"a\":1,^",
            "{\"a\":1 ^\"b\":2}", "\"int\"^x", "\"int\" ^\"int\"", "\"int\"^\u0000", "{}^}", "[]^]", "t^", "tr^", "tru^",
            "tru^x", "^True", "fals^", "fa^x", "fals^o", "nul^", "n^ill", "true^x", "null^ull", "[true^false]",
            "{\"a\":1,^\"a\":2}", "{\"a\":1,\"b\":2,^\"a\"x", "{\"\":1,^\"\"", "{\"a\":1,^\"\\u0061\":2}", "{\"b\":{\"a\":1},^\"b\"",
            "{\"a\":1,^\"a\"\u0001"}) {
            Check.fault(1, s);
        }
        Check.good("{\"a\":{\"a\":1},\"type\":\"int\",\"b\":{\"a\":1}}");
        Check.good("\r\n {\t\"type\" :\n\"array\" , \"items\":\r\"int\"\t} \n");
        Check.fault(4, "[^[[[[[[[[[[[[[[[[[[[[[[[]]]]]]]]]]]]]]]]]]]]]]]]");
        Check.fault(1, "[[[[[[[[[[[[[[[[[[[[[[[[^[]]]]]]]]]]]]]]]]]]]]]]]]]");
        Check.fault(1, "[[[[[[[[[[[[[[[[[[[[[[[[^[");
        Check.fault(1, "[[[[[[[[[[[[[[[[[[[[[[[[^{");
        Check.fault(1, "[[[[[[[[[[[[[[[[[[[[[[[[^");
        Check.good("{\"x\":" + "[".repeat(23) + "]".repeat(23) + ",\"type\":\"int\"}");
        Check.fault(1, "{\"x\":" + "[".repeat(23) + "^[" + "]".repeat(24) + ",\"type\":\"int\"}");
        Check.good(" ".repeat(4090) + "\"null\"");
        Check.fault(1, "[" + "1,".repeat(2047) + "1^");
        Check.fault(1, "[".repeat(24) + "1,".repeat(2036) + "^");
    }

    private static void strings() {
        for (String s : new String[] {"\"^", "\"abc^", "\"a^\n\"", "\"a^\u001f\"", "\"^\u007f\"", "\"^\u0080\"", "\"^\u00ff\"", "\"\\^",
            "\"\\^x\"", "\"\\^U0041\"", "\"\\^'\"", "\"\\u^\"", "\"\\u^", "\"\\u0^", "\"\\u00^", "\"\\u004^", "\"\\u00^G0\"",
            "\"\\u^-041\"", "\"\\u004^g\"", "\"^\\u0100\"", "\"ab^\\uFFFF", "\"^\\u0100", "\"\\u010^x", "\"\\u01^\"", "{\"^\\u0100",
            "\"\\\"^", "\"\\\\\"^\"", "\"\\^ \"", "\"\\u00ff^", "\"~ !#[]{}^"}) {
            Check.fault(1, s);
        }
        Check.good("\"\\u0069nt\"");
        Check.good("\"\\u0069\\u006Et\"");
        Check.good("{\"t\\u0079pe\":\"int\",\" ~\\\"\\\\\\/\\b\\f\\n\\r\\t\\u00fF\\u0000\":0}");
        Check.fault(1, "{\"\\/\":1,^\"/\":2}");
        Check.fault(1, "{\"\\n\":1,^\"\\u000a\":2}");
        Check.good("{\"\\b\":1,\"\\f\":1,\"\\n\":1,\"\\r\":1,\"\\t\":1,\"b\":1,\"f\":1,\"n\":1,\"r\":1,\"t\":1,\"type\":\"int\"}");
        Check.fault(1, "{\"\\t\":1,^\"\\u0009\":2}");
        Check.fault(1, "{\"\\r\":1,^\"\\u000D\":2}");
        Check.fault(1, "{\"\\b\":1,^\"\\u0008\":2}");
        Check.fault(1, "{\"\\f\":1,^\"\\u000C\":2}");
        Check.fault(1, "{\"\\\\\":1,^\"\\u005c\":2}");
        Check.fault(1, "{\"\\\"\":1,^\"\\u0022\":2}");
    }

    private static void numbers() {
        for (String s : new String[] {"-^", "-^x", "-^-1", "0^0", "0^1", "-0^1", "1^.5", "1^e5", "1^-", "^+1", "^.5", "1 ^2",
            "^9223372036854775808", "^9223372036854775808x", "^-9223372036854775809", "^-9223372036854775809.", "[1,^9223372036854775808",
            "^10000000000000000000", "^99999999999999999999999999999999999999", "{\"a\":^18446744073709551616}",
            "^92233720368547758070", "^-92233720368547758080", "^18446744073709551617"}) {
            Check.fault(1, s);
        }
        for (String s : new String[] {"0", "-0", "7", "-7", "10", "9223372036854775807", "-9223372036854775808", "9223372036854775800"}) {
            Check.fault(2, "^" + s);
            Check.good("{\"a\":" + s + ",\"type\":\"int\"}");
        }
    }

    private static void words() {
        for (String s : new String[] {"null", "boolean", "int", "long", "bytes", "string"}) {
            Check.good("\"" + s + "\"");
            Check.good("{\"type\":\"" + s + "\"}");
            Check.good("{\"name\":5,\"type\":\"" + s + "\",\"items\":[]}");
        }
        for (String s : new String[] {"1", "null", "true", "false"}) {
            Check.fault(2, "^" + s);
            Check.fault(2, " [\"int\",^" + s + "]");
            Check.fault(2, Check.array("^" + s));
        }
        for (String s : new String[] {"", "foo", "Int", "int ", "record", "array", "enum", "fixed", "map", "union"}) {
            Check.fault(3, " ^\"" + s + "\"");
        }
        Check.fault(3, "{\"type\":^\"foo\"}");
        Check.fault(3, "{\"type\":^\"union\"}");
        Check.fault(3, "{\"type\":^\"\"}");
        Check.fault(3, "[^\"F\"," + Check.fixed("F", 1) + "]");
        Check.good("[" + Check.fixed("F", 1) + "," + Check.array("\"F\"") + "]");
        Check.good("[" + Check.fixed("F", 1) + "," + Check.array("{\"type\":\"F\"}") + "]");
        Check c = new Check().keep(0, Check.fixed("F", 1));
        Check.due("a name of another text", c.schema(0, "\"F\""), "3@0");
    }

    private static void unions() {
        Check.fault(5, "^[]");
        Check.fault(5, Check.array("^[]"));
        Check.fault(4, "[^[]]");
        Check.fault(4, "[\"int\",^[\"int\"]]");
        Check.fault(3, "[^\"foo\",[]]");
        Check.fault(6, "[\"int\",^\"int\"]");
        Check.fault(6, "[\"int\",\"null\",^{\"type\":\"int\"},[]]");
        Check.fault(6, "[" + Check.array("\"int\"") + ",^" + Check.array("\"long\"") + "]");
        Check.fault(6, "[" + Check.map("\"int\"") + ",^" + Check.map("\"long\"") + "]");
        Check.fault(6, "[" + Check.fixed("F", 1) + ",^\"F\"]");
        Check.fault(6, "[" + Check.fixed("F", 1) + ",\"int\",^{\"type\":\"F\"}]");
        Check.fault(3, "[" + Check.array("\"int\"") + "," + Check.array("^\"foo\"") + "]");
        Check.fault(9, "[" + Check.fixed("F", 1) + "," + Check.fixed("F", 1).replace("\"F\"", "^\"F\"") + "]");
        Check.good("[" + Check.array("\"int\"") + "," + Check.map("\"int\"") + "," + Check.fixed("F", 1) + "," + Check.fixed("G", 1) + "]");
        Check.good("[\"int\",\"long\",\"bytes\",\"string\",\"null\",\"boolean\"]");
        StringBuilder sixteen = new StringBuilder("\"int\"");
        for (int k = 1; k < 16; k++) {
            sixteen.append(',').append(Check.fixed("F" + k, k));
        }
        Check.good("[" + sixteen + "]");
        Check.fault(5, "^[" + sixteen + ",\"long\"]");
        Check.fault(5, "^[1,1,1,1,1,1,1,1,1,1,1,1,1,1,1,1,1]");
    }

    private static void objects() {
        Check.fault(7, "^{}");
        Check.fault(7, "^{\"name\":\"F\"}");
        Check.fault(7, " ^{\"type\":1}");
        Check.fault(7, "^{\"type\":null}");
        Check.fault(7, "^{\"type\":[\"int\"]}");
        Check.fault(7, "^{\"type\":{\"type\":\"int\"}}");
        Check.fault(7, "[\"int\",^{}]");
        Check.fault(8, "^{\"type\":\"array\"}");
        Check.fault(8, "^{\"type\":\"array\",\"values\":\"int\"}");
        Check.fault(8, "^{\"type\":\"map\",\"items\":\"int\"}");
        for (String s : new String[] {"fixed", "enum", "record"}) {
            Check.fault(8, "^{\"type\":\"" + s + "\"}");
            Check.fault(8, "^{\"type\":\"" + s + "\",\"name\":1}");
            Check.fault(8, "^{\"type\":\"" + s + "\",\"name\":\"A\"}");
            Check.fault(9, "{\"type\":\"" + s + "\",\"name\":^\"\"}");
        }
        Check.good("{\"items\":\"int\",\"type\":\"array\",\"values\":3}");
        Check.good(Check.map(Check.map("[\"null\"," + Check.map("\"int\"") + "]")));
    }

    private static void names() {
        String longest = "a_Z09".repeat(6) + "_b";
        for (String s : new String[] {"a", "_", "Z", "_0", "z9", "union", "type", "Null", longest}) {
            Check.good(Check.fixed(s, 1));
            Check.good(Check.symbols("E", s));
            Check.good(Check.record("R", s + "=\"int\""));
        }
        for (String s : new String[] {"", "0", "9a", "a-b", "a.b", "a b", " a", "a\\n", "\\u00e9", "a\\u0000", longest + "x"}) {
            Check.fault(9, Check.fixed(s, 1).replace("\"name\":", "\"name\":^"));
            Check.fault(11, Check.symbols("E", "k", s).replace("\"k\",", "\"k\",^"));
            Check.fault(9, Check.record("R", s + "=\"int\"").replace("{\"name\":", "{\"name\":^"));
        }
        for (String s : new String[] {"null", "boolean", "int", "long", "bytes", "string", "array", "map", "fixed", "enum", "record"}) {
            Check.fault(9, Check.fixed(s, 1).replace("\"name\":", "\"name\":^"));
            Check.fault(9, Check.record(s).replace("\"name\":", "\"name\":^"));
            Check.good(Check.symbols("E", s));
            Check.good(Check.record("R", s + "=\"int\""));
        }
        Check.fault(9, Check.record("R", "a=" + Check.record("R").replace("\"name\":", "\"name\":^")));
        Check.fault(9, Check.record("R", "a=" + Check.fixed("F", 0), "b=" + Check.symbols("F", "x").replace("\"name\":", "\"name\":^")));
        Check.good("{\"fields\":[{\"type\":[\"null\",\"R\"],\"name\":\"R\"}],\"type\":\"record\",\"name\":\"R\"}");
    }

    private static void fixedsAndEnums() {
        for (String s : new String[] {"-1", "65", "9223372036854775807", "4294967296", "\"4\"", "null", "[]", "true"}) {
            Check.fault(10, "{\"type\":\"fixed\",\"name\":\"F\",\"size\":^" + s + "}");
        }
        Check.good(Check.fixed("F", 0));
        Check.good(Check.fixed("F", 64));
        Check.good("{\"type\":\"fixed\",\"name\":\"F\",\"size\":-0}");
        for (String s : new String[] {"^1", "^\"a\"", "^{\"a\":1}", "^[]", "[^1]", "[\"a\",^null]", "[\"a\",^[\"b\"]]", "[\"a\",\"b\",^\"a\"]",
            "[\"a\",^\"\\u0061\"]", "[^\"\"]"}) {
            Check.fault(11, "{\"type\":\"enum\",\"name\":\"E\",\"symbols\":" + s + ",\"default\":1}");
        }
        StringBuilder many = new StringBuilder("\"a\"");
        for (int k = 1; k < 32; k++) {
            many.append(",\"a").append(k).append('"');
        }
        Check.good("{\"type\":\"enum\",\"name\":\"E\",\"symbols\":[" + many + "]}");
        Check.fault(11, "{\"type\":\"enum\",\"name\":\"E\",\"symbols\":^[" + many + ",\"b\"]}");
        for (String s : new String[] {"1", "null", "[]", "\"c\"", "\"\"", "\"A\""}) {
            Check.fault(12, "{\"default\":^" + s + ",\"type\":\"enum\",\"name\":\"E\",\"symbols\":[\"a\",\"b\"]}");
        }
        Check.good("{\"default\":\"\\u0062\",\"type\":\"enum\",\"name\":\"E\",\"symbols\":[\"a\",\"b\"]}");
        // An enum's default is looked at at once, before what comes behind it.
        Check.fault(12, "[{\"type\":\"enum\",\"name\":\"E\",\"symbols\":[\"a\"],\"default\":^\"b\"},\"foo\"]");
    }

    private static void records() {
        for (String s : new String[] {"^1", "^\"a\"", "^{}", "^null", "[^1]", "[^[]]", "[^\"a\"]", "[{\"name\":\"a\",\"type\":\"int\"},^null]"}) {
            Check.fault(11, "{\"type\":\"record\",\"name\":\"R\",\"fields\":" + s + "}");
        }
        for (String s : new String[] {"{}", "{\"type\":\"int\"}", "{\"name\":1,\"type\":\"int\"}", "{\"name\":\"a\"}", "{\"name\":\"a\",\"default\":1}"}) {
            Check.fault(8, "{\"type\":\"record\",\"name\":\"R\",\"fields\":[^" + s + ",1]}");
        }
        Check.fault(9, "{\"type\":\"record\",\"name\":\"R\",\"fields\":[{\"name\":\"a\",\"type\":\"int\"},{\"type\":\"foo\",\"name\":^\"a\"}]}");
        Check.fault(9, "{\"type\":\"record\",\"name\":\"R\",\"fields\":[{\"name\":^\"\"}]}");
        Check.fault(3, Check.record("R", "a=^\"S\"", "b=" + Check.record("S")));
        Check.fault(2, Check.record("R", "a=^7", "a=\"int\""));
        Check.good(Check.record("R"));
        Check.good(Check.record("R", "a=\"R\""));
        Check.good(Check.record("R", "a=" + Check.record("S", "a=\"R\""), "b=\"S\"", "c={\"type\":\"S\"}"));
        String[] fields = new String[33];
        for (int k = 0; k < 33; k++) {
            fields[k] = "f" + k + "=\"int\"";
        }
        Check.good(Check.record("R", java.util.Arrays.copyOf(fields, 32)));
        Check.fault(11, Check.record("R", fields).replace("[", "^["));
    }

    private static void fits(boolean fits, String type, String value) {
        String text = Check.record("R", "e=" + Check.symbols("E", "a", "b"), "f=" + Check.fixed("F", 2),
                "s=" + Check.record("S", "x=\"int\"", "y=\"null\""), "z=" + type + "=" + value);
        if (fits) {
            Check.good(text.replace("^", ""));
        } else {
            Check.fault(12, text);
        }
    }

    private static void fieldDefaults() {
        fits(true, "\"null\"", "null");
        fits(true, "\"boolean\"", "true");
        fits(true, "\"boolean\"", "false");
        fits(true, "\"int\"", "2147483647");
        fits(true, "\"int\"", "-2147483648");
        fits(true, "\"long\"", "9223372036854775807");
        fits(true, "\"long\"", "-9223372036854775808");
        fits(true, "\"bytes\"", "\"\\u00ff\"");
        fits(true, "\"string\"", "\"\"");
        fits(true, "\"F\"", "\"\\u0000b\"");
        fits(true, "\"E\"", "\"b\"");
        fits(true, Check.array("\"int\""), "[]");
        fits(true, Check.array("\"int\""), "[1,2]");
        fits(true, Check.map("\"int\""), "{}");
        fits(true, Check.map("\"int\""), "{\"\":1,\"a\":2}");
        fits(true, "[\"null\",\"int\"]", "null");
        fits(true, "\"S\"", "{\"y\":null,\"z\":0,\"x\":1}");
        fits(true, Check.array("[\"S\",\"null\"]"), "[{\"x\":1,\"y\":null}]");
        for (String s : new String[] {"^0", "^false", "^\"\"", "^[]", "^{}"}) {
            fits(false, "\"null\"", s);
        }
        for (String s : new String[] {"^null", "^0", "^\"true\"", "^[]", "^{}"}) {
            fits(false, "\"boolean\"", s);
        }
        for (String s : new String[] {"^null", "^true", "^\"1\"", "^[1]", "^{}", "^2147483648", "^-2147483649", "^4294967296"}) {
            fits(false, "\"int\"", s);
        }
        for (String s : new String[] {"^null", "^true", "^\"1\"", "^[1]", "^{}"}) {
            fits(false, "\"long\"", s);
        }
        for (String s : new String[] {"^null", "^true", "^1", "^[\"\"]", "^{}"}) {
            fits(false, "\"bytes\"", s);
            fits(false, "\"string\"", s);
            fits(false, "\"F\"", s);
            fits(false, "\"E\"", s);
        }
        for (String s : new String[] {"^\"\"", "^\"a\"", "^\"abc\""}) {
            fits(false, "\"F\"", s);
        }
        fits(false, "\"E\"", "^\"c\"");
        for (String s : new String[] {"^null", "^{}", "^\"\"", "[1,^null,true]", "[1,^[]]"}) {
            fits(false, Check.array("\"int\""), s);
        }
        for (String s : new String[] {"^null", "^[]", "{\"a\":1,\"b\":^null,\"c\":null}", "{\"z\":1,\"a\":^\"\"}"}) {
            fits(false, Check.map("\"int\""), s);
        }
        fits(false, "[\"null\",\"int\"]", "^1");
        fits(false, "[\"int\",\"null\"]", "^null");
        for (String s : new String[] {"^null", "^[]", "^{}", "^{\"x\":1}", "^{\"y\":null}", "{\"y\":1,\"x\":^null}", "{\"x\":1,\"y\":^0}",
            "{\"x\":^\"\"}"}) {
            fits(false, "\"S\"", s);
        }
        // A field's own default does not help where a value of its record is written.
        Check.good(Check.record("R", "s=" + Check.record("S", "x=\"int\"=1") + "={\"x\":2}"));
        Check.fault(12, Check.record("R", "s=" + Check.record("S", "x=\"int\"=1") + "=^{}"));
        Check.fault(12, Check.record("R", "a=\"R\"={\"a\":{\"a\":^{}}}"));
        Check.good(Check.record("R", "a=[\"null\",\"R\"]=null"));
        Check.fault(12, Check.record("R", "a=[\"R\",\"null\"]=^null"));
    }

    private static void orderOfDefaults() {
        // All else is looked at first.
        Check.fault(3, Check.record("R", "a=\"int\"=null", "b=^\"foo\""));
        Check.fault(12, Check.record("R", "a=\"int\"=^null", "b=\"int\"=null"));
        // A field's behind those within its type.
        Check.fault(12, Check.record("R", "a=" + Check.record("S", "x=\"int\"=^null") + "=null", "b=\"int\"=null"));
        Check.fault(12, "{\"type\":\"record\",\"name\":\"R\",\"fields\":[{\"default\":0,\"name\":\"a\",\"type\":"
                + Check.array(Check.record("S", "x=\"int\"=^null")) + "}]}");
        // A name has none within it: those of what it stands for came before.
        Check.fault(12, Check.record("R", "a=" + Check.record("S", "x=\"int\"=^null"), "b=\"S\"=null"));
        Check.fault(12, Check.record("R", "a=" + Check.record("S", "y=\"int\"=1") + "=^null", "b=\"S\"={\"y\":null}"));
        Check.fault(12, Check.record("R", "a=\"R\"=^null", "b=\"int\"=null"));
        // Records in the order of their fields, maps in that of the text.
        Check.fault(12, Check.record("R", "a=" + Check.record("S", "x=\"int\"", "y=\"int\"") + "={\"y\":null,\"x\":^null}"));
        Check.fault(12, Check.record("R", "a=" + Check.record("S", "x=\"int\"", "y=\"int\"") + "=^{\"y\":null}"));
        Check.fault(12, Check.record("R", "a=" + Check.map("\"int\"") + "={\"y\":^null,\"x\":null}"));
    }

    private static void counts() {
        String four = Check.array(Check.array(Check.array("\"int\"")));
        String[] fields = new String[32];
        for (int k = 0; k < 31; k++) {
            fields[k] = "f" + k + "=" + four;
        }
        // 1 + 31 * 4 = 125 without the last field.
        fields[31] = "g=" + Check.array(Check.array("\"int\""));
        Check.good(Check.record("R", fields));
        fields[31] = "g=[\"int\",\"long\"]";
        Check.good(Check.record("R", fields));
        fields[31] = "g=[\"int\",\"long\",^\"foo\",\"int\"]";
        Check.fault(13, Check.record("R", fields));
        fields[31] = "g=[\"int\",\"long\",^7]";
        Check.fault(13, Check.record("R", fields));
        fields[31] = "g=" + Check.array(Check.array(Check.array("^[]")));
        Check.fault(13, Check.record("R", fields));
        fields[31] = "g=[\"int\",\"R\",^\"R\"]";
        Check.fault(13, Check.record("R", fields));
        // "int" lies in as many others as there are arrays.
        String deep = "\"int\"";
        for (int k = 0; k < 15; k++) {
            deep = Check.array(deep);
        }
        Check.good(deep);
        Check.fault(14, deep.replace("\"int\"", Check.array("^\"foo\"")));
        Check.fault(14, deep.replace("\"int\"", "[^7]"));
        Check.fault(14, deep.replace("\"int\"", Check.map("^[]")));
        Check.fault(14, deep.replace("\"int\"", Check.record("R", "a=^{}")));
        Check.good(deep.replace("\"int\"", Check.record("R")));
        String less = deep.replace(Check.array("\"int\""), "\"int\"");
        Check.good(less.replace("\"int\"", Check.record("R", "a=\"R\"")));
        Check.fault(14, less.replace("\"int\"", Check.record("R", "a=" + Check.array("^\"R\""))));
        Check.good(less.replace("\"int\"", "[\"R\"]").replace("\"R\"", Check.fixed("F", 2)));
        Check.fault(14, less.replace("\"int\"", Check.map("[^\"R\"]")));
        Check.good("[" + deep.replace("{\"type\":\"array\",\"items\":\"int\"}", "\"int\"") + ",\"null\"]");
    }

    /** Faults leave nothing behind, however often they are told. */
    private static void manyFaults() {
        StringBuilder symbols = new StringBuilder();
        for (int k = 0; k < 32; k++) {
            symbols.append(k == 0 ? "" : ",").append("\"a23456789_b23456789_c234567").append(10 + k).append('"');
        }
        String start = "{\"type\":\"record\",\"name\":\"R\",\"fields\":[{\"name\":\"e\",\"type\":"
                + "{\"type\":\"enum\",\"name\":\"E\",\"symbols\":[" + symbols + "]}},{\"name\":\"s\",\"type\":\"string\",\"default\":\""
                + "x".repeat(900) + "\"},";
        Check c = new Check();
        for (int k = 0; k < 70; k++) {
            String text = start + "{\"name\":\"z\",\"type\":\"int\",\"default\":null}]}";
            Check.due("fault " + k, k == 0 ? c.schema(4, text) : c.teller.schema(4) + "@" + c.teller.place(), "12@" + text.indexOf("null"));
        }
        c.teller.end(c.tapeLength() - 7);
        c.more(Check.latin("6500}]}"));
        Check.due("mended", c.teller.schema(4), 0);
        c.keep(5, Check.record("R"));
        c.keep(6, "[\"null\"," + Check.record("R", "z=\"int\"=1") + "]");
        Check.due("fits", c.teller.fits(4, 6) + " " + c.teller.fits(6, 4) + " " + c.teller.fits(5, 5), "true false true");
        c.keep(7, Check.record("R", "e=" + Check.symbols("E", "a23456789_b23456789_c23456710"), "z=\"int\""));
        Check.due("load", c.load(7, 0, 2), "1");
        Check.due("as the mended one", c.teller.read(4, 0), 1 + 902 + 1);
    }

    private static void effects() {
        Check c = new Check();
        for (int p : new int[] {-1, 8, Integer.MIN_VALUE, Integer.MAX_VALUE}) {
            c.tape(Check.latin("\"int\""));
            Check.due("place " + p, Check.answer(() -> c.teller.schema(p)), "throws.IndexOutOfBoundsException");
            Check.due("tape behind it", c.tapeLength(), 5);
        }
        for (int p = 0; p < 8; p++) {
            c.keep(p, "\"boolean\"");
        }
        Check.due("rows", c.load(2, 1, 0, 1), "3");
        c.teller.read(2, 1);
        Check.due("a faulty text", c.schema(2, "\"foo\""), "3@0");
        Check.due("rows stay", c.letters(0), "1 0 1");
        Check.due("tape stays", c.tapeLength(), 5);
        c.keep(3, "\"int\"");
        Check.due("rows of another place stay", c.teller.rows() + ": " + c.letters(0), "3: 1 0 1");
        Check.due("rows are told still", c.read(2, 2), "1");
        c.keep(2, "\"boolean\"");
        Check.due("rows of the place are gone", c.teller.rows() + ": " + c.letters(0), "0: ");
        Check.due("OUT stays", c.letters(1), "1");
        Check.due("no rows to tell", c.teller.all(2), 0);
        Check.due("no row", Check.answer(() -> c.teller.read(2, 0)), "throws.IndexOutOfBoundsException");
        Check.due("rows again", c.load(2, 0), "1");
    }
}
