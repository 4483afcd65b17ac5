import java.util.ArrayList;
import java.util.List;

/** Each sentence of the document's part on schemas (FAULTS 2 to 14) that names an edge. Faults' places are marked by ^. */
public final class EdgesOfSchemasTest {
    private static final String[] SIX = {"null", "boolean", "int", "long", "bytes", "string"};
    private static final String[] OTHERS = {"array", "map", "fixed", "enum", "record"};

    public static void main(String[] args) {
        sixWords();
        signsOfNames();
        lengthsOfNames();
        namesThatAreTaken();
        definedBefore();
        eachTextByItself();
        schemasIn128();
        all128OfTheirOwn();
        schemasInSixteen();
        thirteenBeforeFourteen();
        branchesThatAreUnions();
        sizesOfUnions();
        branchesLikeOthers();
        typesThatAreNoStrings();
        membersThatLack();
        sizesOfFixeds();
        numbersOfSymbols();
        symbolsThatAreNone();
        defaultsOfEnums();
        numbersOfFields();
        fieldsThatAreNone();
        anythingElse();
        otherMembers();
        orderOfLooks();
        Check.done();
    }

    private static String quoted(String... words) {
        return "\"" + String.join("\",\"", words) + "\"";
    }

    private static String named(String kind, String nameMember, String rest) {
        return "{\"type\":\"" + kind + "\"" + (nameMember.isEmpty() ? "" : ",\"name\":" + nameMember) + rest + "}";
    }

    /** "(words null boolean int long bytes string)", "A string: one of the six words: that; ... else 3 at v." */
    private static void sixWords() {
        for (String s : SIX) {
            Check.good("\"" + s + "\"");
            Check.good("{\"type\":\"" + s + "\"}");
            for (String t : new String[] {s.substring(1), s.substring(0, s.length() - 1), s + s, s + " ", " " + s, s.toUpperCase(),
                s + "\\u0000", s.replace('n', 'm').replace('b', 'd')}) {
                Check.fault(3, "^\"" + t + "\"");
                Check.fault(3, "{\"type\":^\"" + t + "\"}");
            }
        }
        for (String s : OTHERS) {
            Check.fault(3, "^\"" + s + "\"");
            Check.fault(3, "[\"int\",^\"" + s + "\"]");
            Check.fault(3, Check.record("R", "a=^\"" + s + "\""));
            Check.fault(8, "^{\"type\":\"" + s + "\"}");
            Check.fault(3, "{\"type\":^\"" + s + "s\"}");
            Check.fault(3, "{\"type\":^\"" + s.substring(1) + "\"}");
        }
        Check.fault(3, "^\"\"");
        Check.fault(3, "^\"union\"");
    }

    private static boolean isLetter(int b) {
        return b >= 'a' && b <= 'z' || b >= 'A' && b <= 'Z' || b == '_';
    }

    /** "A NAME is ... of letters a .. z A .. Z, digits and _, no digit first." */
    private static void signsOfNames() {
        for (int b = 0; b < 256; b++) {
            String sign = "\\u00" + Integer.toHexString(b | 256).substring(1);
            boolean digit = b >= '0' && b <= '9';
            name(sign, isLetter(b));
            name("q" + sign, isLetter(b) || digit);
            name("q".repeat(31) + sign, isLetter(b) || digit);
            name("q" + sign + "q", isLetter(b) || digit);
        }
    }

    /** "A NAME is 1 .. 32" */
    private static void lengthsOfNames() {
        for (int n = 1; n <= 32; n++) {
            name("n".repeat(n), true);
        }
        for (int n : new int[] {0, 33, 34, 64, 65, 128, 256, 257, 288}) {
            name("n".repeat(n), false);
        }
    }

    /** As the name of a fixed, an enum, a record, a field, and as a symbol. */
    private static void name(String name, boolean isOne) {
        String n = "\"" + name + "\"";
        if (isOne) {
            Check.good("[" + named("fixed", n, ",\"size\":1") + "," + Check.array(n) + "]");
            Check.good(named("enum", n, ",\"symbols\":[" + n + ",\"zz\"],\"default\":" + n));
            Check.good(named("record", n, ",\"fields\":[{\"name\":" + n + ",\"type\":[\"null\"," + n + "]}]"));
        } else {
            Check.fault(9, named("fixed", "^" + n, ",\"size\":1"));
            Check.fault(9, named("enum", "^" + n, ",\"symbols\":[\"a\"]"));
            Check.fault(9, named("record", "^" + n, ",\"fields\":[]"));
            Check.fault(9, named("record", "\"R\"", ",\"fields\":[{\"name\":^" + n + ",\"type\":\"int\"}]"));
            Check.fault(11, named("enum", "\"E\"", ",\"symbols\":[^" + n + "]"));
            Check.fault(11, named("enum", "\"E\"", ",\"symbols\":[\"a\",^" + n + ",\"b\"]"));
        }
    }

    /** "9 at that if it is no name, or one of the six words, array, map, fixed, enum, record, or defined already." */
    private static void namesThatAreTaken() {
        List<String> taken = new ArrayList<>(List.of(SIX));
        taken.addAll(List.of(OTHERS));
        for (String s : taken) {
            Check.fault(9, named("fixed", "^\"" + s + "\"", ",\"size\":1"));
            Check.fault(9, named("enum", "^\"" + s + "\"", ",\"symbols\":[\"a\"]"));
            Check.fault(9, named("record", "^\"" + s + "\"", ",\"fields\":[]"));
            for (String t : new String[] {s + "_", "_" + s, s.substring(1), s.substring(0, 1).toUpperCase() + s.substring(1)}) {
                Check.good(named("fixed", "\"" + t + "\"", ",\"size\":1"));
            }
            // Fields and symbols may be called so.
            Check.good(named("record", "\"R\"", ",\"fields\":[{\"name\":\"" + s + "\",\"type\":\"int\"}]"));
            Check.good(named("enum", "\"E\"", ",\"symbols\":[\"" + s + "\"]"));
        }
        String[] first = {Check.fixed("A", 1), Check.symbols("A", "a"), Check.record("A")};
        for (String f : first) {
            Check.fault(9, "[" + f + "," + named("fixed", "^\"A\"", ",\"size\":1") + "]");
            Check.fault(9, "[" + f + "," + named("enum", "^\"A\"", ",\"symbols\":[\"a\"]") + "]");
            Check.fault(9, "[" + f + "," + named("record", "^\"\\u0041\"", ",\"fields\":[]") + "]");
            Check.good("[" + f + "," + Check.fixed("a", 1) + "," + Check.fixed("AA", 1) + "," + Check.fixed("A_", 1) + "]");
            Check.good("[" + f + "," + Check.record("R", "A=\"A\"") + "," + Check.symbols("E", "A") + "]");
        }
        Check.fault(9, Check.record("A", "a=" + named("record", "^\"A\"", ",\"fields\":[]")));
        // Names of fields and symbols define nothing.
        Check.good(Check.record("R", "A=\"int\"", "b=" + Check.fixed("A", 1), "c=" + Check.symbols("E", "x", "y"), "d=" + Check.fixed("x", 1)));
    }

    /** "the name of a fixed, enum or record that is defined (before it in this text ..): that; else 3 at v", "It is defined from here on." */
    private static void definedBefore() {
        for (String f : new String[] {Check.fixed("A", 1), Check.symbols("A", "a"), Check.record("A")}) {
            Check.good("[" + f + "," + Check.array("\"A\"") + "]");
            Check.good("[" + f + "," + Check.array("{\"type\":\"A\"}") + "]");
            Check.good("[" + Check.array(f) + ",\"A\"]");
            Check.good(Check.record("R", "x=" + Check.record("S", "y=" + Check.map(f)), "z=\"A\""));
            Check.fault(3, "[^\"A\"," + f + "]");
            Check.fault(3, "[" + Check.array("^\"A\"") + "," + f + "]");
            Check.fault(3, "[" + Check.array("{\"type\":^\"A\"}") + "," + f + "]");
            Check.fault(3, "[" + f + ",^\"a\"]");
            Check.fault(3, "[" + f + ",^\"AA\"]");
            Check.fault(3, "[" + f + ",^\"\"]");
            Check.fault(3, "[" + f + ",^\"B\"]");
        }
        Check.good(Check.record("A", "a=\"A\""));
        Check.good(Check.record("A", "a={\"type\":\"A\"}"));
        Check.fault(3, Check.record("R", "A=\"int\"", "b=^\"A\""));
        Check.fault(3, Check.record("R", "b=" + Check.symbols("E", "A"), "c=^\"A\""));
        Check.good("{\"type\":\"record\",\"name\":\"A\",\"fields\":[{\"type\":[\"A\",\"null\"],\"name\":\"a\"}]}");
    }

    /** "each text by itself" */
    private static void eachTextByItself() {
        Check c = new Check();
        c.keep(0, Check.record("A", "f=" + Check.fixed("F", 1), "e=" + Check.symbols("E", "a")));
        for (String s : new String[] {"A", "F", "E"}) {
            Check.due("a name of the text before", c.schema(0, "\"" + s + "\""), "3@0");
            Check.due("at another place", c.schema(1, "[\"int\",\"" + s + "\"]"), "3@7");
            Check.due("may be defined anew", c.schema(1, Check.fixed(s, 2)), "0");
            Check.due("and again", c.schema(1, Check.record(s)), "0");
        }
        Check.due("a text with a fault", c.schema(2, "[" + Check.fixed("G", 1) + ",7]"), "2@" + (2 + Check.fixed("G", 1).length()));
        Check.due("defines nothing", c.schema(2, "\"G\""), "3@0");
        Check.due("forbids nothing", c.schema(2, Check.fixed("G", 1)), "0");
        Check.due("a text with a wrong default", c.schema(2, Check.record("H", "a=\"int\"=null")).substring(0, 2), "12");
        Check.due("defines nothing", c.schema(2, "\"H\""), "3@0");
        Check.due("forbids nothing, and has no default", c.schema(2, Check.record("H", "a=\"int\"")), "0");
    }

    /** A record with as many schemas in it as is told, its own one and the last field's too; the last field is "z". */
    private static String schemas(int count, int ofLast, String last) {
        List<String> fields = new ArrayList<>();
        int left = count - 1 - ofLast;
        String six = "[\"null\",\"boolean\",\"int\",\"long\",\"bytes\",\"string\"]";
        for (int k = 0; left > 0; k++) {
            int has = left >= 7 ? 7 : 1;
            fields.add("f" + k + "=" + (has == 7 ? six : "\"int\""));
            left -= has;
        }
        fields.add("z=" + last);
        return Check.record("R", fields.toArray(new String[0]));
    }

    /** "13 there are 128 already (each value that is looked at as a schema is one): at v." */
    private static void schemasIn128() {
        Check.good(schemas(127, 1, "\"int\""));
        Check.good(schemas(128, 1, "\"int\""));
        Check.good(schemas(128, 1, "\"R\""));
        Check.good(schemas(128, 1, "{\"type\":\"R\"}"));
        Check.good(schemas(128, 1, "{\"type\":\"int\",\"items\":[[],7]}"));
        Check.good(schemas(128, 1, Check.fixed("F", 1)));
        Check.good(schemas(128, 1, Check.symbols("E", "a", "b", "c")));
        Check.good(schemas(128, 1, Check.record("S")));
        Check.good(schemas(128, 2, Check.array("\"int\"")));
        Check.good(schemas(128, 2, Check.map("\"int\"")));
        Check.good(schemas(128, 2, Check.record("S", "a=\"int\"")));
        Check.good(schemas(128, 3, "[\"int\",\"null\"]"));
        for (String v : new String[] {"\"int\"", "\"foo\"", "7", "null", "[]", "{}", "\"R\"", "{\"type\":\"int\"}", Check.fixed("F", 65), "[\"int\"]"}) {
            Check.fault(13, schemas(129, 1, "^" + v));
            Check.fault(13, schemas(129, 2, Check.array("^" + v)));
            Check.fault(13, schemas(129, 2, Check.map("^" + v)));
            Check.fault(13, schemas(129, 3, "[\"int\",^" + v + ",[]]"));
            Check.fault(13, schemas(129, 2, Check.record("S", "a=^" + v + "", "a=7")));
        }
        // What is looked at before the schema itself.
        Check.fault(8, schemas(129, 2, "^{\"type\":\"array\",\"values\":\"int\"}"));
        Check.fault(9, schemas(129, 2, Check.record("S", "a=\"int\"").replace("\"name\":\"a\"", "\"name\":^\"1\"")));
        Check.fault(8, schemas(128, 1, Check.record("S", "a=\"int\"").replace("{\"name\":\"a\",\"type\":\"int\"}", "^{\"name\":\"a\"}")));
        // A default comes behind all of them.
        Check.fault(13, schemas(129, 1, "^\"int\"").replace("\"name\":\"f0\"", "\"default\":7,\"name\":\"f0\""));
        Check.fault(12, schemas(128, 1, "\"int\"").replace("\"name\":\"f0\"", "\"default\":^7,\"name\":\"f0\""));
    }

    /** Unions of an array and a map of such unions; they end in 2^levels fixeds, of which the first has this number. */
    private static String tree(int levels, int first) {
        if (levels == 0) {
            return Check.fixed("F" + first, 1);
        }
        return "[" + Check.array(tree(levels - 1, first)) + "," + Check.map(tree(levels - 1, first + (1 << levels - 1))) + "]";
    }

    /** A row that goes to one of the fixeds. */
    private static String way(int levels, int to) {
        if (levels == 0) {
            return "" + (100 + to);
        }
        int half = 1 << levels - 1;
        return (to < half ? "0 2 " : "2 2 0 ") + way(levels - 1, to % half) + " 0";
    }

    /** 31 unions, 62 arrays and maps in them, 32 fixeds, and three arrays around: none of the 128 is one of the six or a name. */
    private static void all128OfTheirOwn() {
        String text = arrays(3, tree(5, 0));
        Check c = new Check().keep(0, text).keep(1, text).keep(2, text.replace(Check.fixed("F31", 1), Check.fixed("F31", 2)));
        StringBuilder rows = new StringBuilder();
        for (int k = 0; k < 32; k++) {
            rows.append("2 2 2 ").append(way(5, k)).append(" 0 0 0 ");
        }
        Check.due("rows", c.load(0, Check.numbers(rows.toString())), "32");
        Check.due("their bytes", c.letters(0), rows.toString().trim());
        Check.due("as another such", c.teller.all(1), 32);
        Check.due("all but the last", c.teller.all(2), 31);
        Check.due("the last", c.read(1, 31), "2 2 2 " + way(5, 31) + " 0 0 0");
        Check.due("as the last is of another size", c.read(2, 31), "-20");
        Check.due("fits", c.teller.fits(0, 1) + " " + c.teller.fits(0, 2) + " " + c.teller.fits(2, 0) + " " + c.teller.fits(2, 2), "true false false true");
        Check.fault(13, arrays(4, tree(5, 0).replace("{\"type\":\"fixed\",\"name\":\"F31\"", "^{\"type\":\"fixed\",\"name\":\"F31\"")));
    }

    /** A schema that lies in as many others as is told: arrays, maps, a union and a record in turn, from a kind on. */
    private static String lies(int in, int kind, String v) {
        String s = v;
        for (int k = in; k > 0; k--) {
            int turn = (kind + k) % 8;
            if (turn == 0) {
                // Three brackets each: a text has 24 within one another.
                s = Check.record("R" + k, "a=" + s);
            } else if (turn == 4) {
                s = "[" + s + "]";
            } else {
                s = turn % 2 == 0 ? Check.array(s) : Check.map(s);
            }
        }
        return s;
    }

    /** "14 it lies in 16 others: at v." */
    private static void schemasInSixteen() {
        for (int kind = 0; kind < 8; kind++) {
            Check.good(lies(14, kind, "\"int\""));
            Check.good(lies(15, kind, "\"int\""));
            Check.good(lies(15, kind, Check.fixed("F", 3)));
            Check.good(lies(15, kind, Check.symbols("E", "a")));
            Check.good(lies(15, kind, Check.record("R")));
            Check.good(lies(15, kind, "{\"type\":\"long\"}"));
            for (String v : new String[] {"\"int\"", "\"foo\"", "7", "{}", "[]", "[\"int\"]", Check.array("\"int\"")}) {
                Check.fault(14, lies(16, kind, "^" + v));
            }
            Check.fault(3, lies(15, kind, "^\"foo\""));
            Check.fault(2, lies(15, kind, "^7"));
            Check.fault(7, lies(15, kind, "^{}"));
        }
        for (int k = 0; k < 16; k++) {
            Check.fault(14, arrays(k, Check.map(arrays(15 - k, "^\"int\""))));
            Check.fault(14, arrays(k, Check.record("R", "b=" + arrays(15 - k, "^\"R\""))));
            Check.fault(14, arrays(k, "[" + arrays(15 - k, "^\"int\"") + "]"));
        }
        // Those that are beside it do not count.
        Check.good("[" + arrays(14, "\"int\"") + "," + Check.map(arrays(13, "\"int\"")) + "," + Check.record("R", "a=" + arrays(13, "\"R\"")) + "]");
        Check.fault(14, "[" + arrays(14, "\"int\"") + "," + Check.map(arrays(14, "^\"int\"")) + "]");
    }

    private static String arrays(int in, String v) {
        String s = v;
        for (int k = 0; k < in; k++) {
            s = Check.array(s);
        }
        return s;
    }

    /** "looked at in this order": 13 before 14, both before all others. */
    private static void thirteenBeforeFourteen() {
        // z's arrays lie in the record: fifteen of them, and v lies in sixteen.
        Check.fault(13, schemas(129, 16, arrays(15, "^\"int\"")));
        Check.fault(14, schemas(128, 16, arrays(15, "^\"int\"")));
        Check.fault(13, schemas(129, 16, arrays(15, "^7")));
        Check.fault(14, schemas(128, 16, arrays(15, "^7")));
        Check.good(schemas(128, 15, arrays(14, "\"int\"")));
        Check.fault(14, "[" + arrays(15, "^[]") + "]");
        Check.fault(4, arrays(14, "[^[]]"));
        Check.fault(14, arrays(15, "[^[]]"));
    }

    /** "4 at v if it is a branch of a union" */
    private static void branchesThatAreUnions() {
        for (String v : new String[] {"[]", "[\"int\"]", "[7]", "[\"int\",\"int\"]", "[[]]"}) {
            Check.fault(4, "[^" + v + "]");
            Check.fault(4, "[\"null\",^" + v + ",\"null\"]");
            Check.fault(4, Check.array("[\"null\",^" + v + "]"));
        }
        Check.good("[" + Check.array("[\"int\"]") + "," + Check.map("[\"int\"]") + "," + Check.record("R", "a=[\"int\"]") + "]");
    }

    private static String branches(int n, String last) {
        List<String> all = new ArrayList<>(List.of(quoted(SIX).split(",")));
        all.add(Check.array("\"int\""));
        all.add(Check.map("\"int\""));
        for (int k = 0; k < 20; k++) {
            all.add(Check.fixed("F" + k, k));
        }
        return "[" + String.join(",", all.subList(0, n - 1)) + (n > 1 ? "," : "") + last + "]";
    }

    /** "5 at v unless it has 1 .. 16" */
    private static void sizesOfUnions() {
        for (int n = 1; n <= 16; n++) {
            Check.good(branches(n, Check.record("R")));
        }
        Check.fault(5, "^[]");
        Check.fault(5, "^[ ]");
        for (int n : new int[] {17, 18, 20, 26}) {
            Check.fault(5, "^" + branches(n, Check.record("R")));
            Check.fault(5, Check.array("^" + branches(n, "7")));
        }
        // Before its branches are looked at; those count for 13 one by one then.
        Check.fault(5, "^[" + "7,".repeat(16) + "7]");
        Check.fault(2, "[^" + "7,".repeat(15) + "7]");
    }

    /** "each branch is looked at in order; 6, when it has been, at one that is as one before it (...)" */
    private static void branchesLikeOthers() {
        for (String s : SIX) {
            String v = "\"" + s + "\"";
            Check.fault(6, "[" + v + ",^" + v + "]");
            Check.fault(6, "[" + v + ",^{\"type\":" + v + "}]");
            Check.fault(6, "[{\"type\":" + v + "},^" + v + "]");
            Check.fault(6, "[" + v + "," + Check.record("R") + "," + Check.array(v) + ",^" + v + "]");
        }
        Check.fault(6, "[" + Check.array("\"int\"") + ",\"int\",^" + Check.array("\"null\"") + "]");
        Check.fault(6, "[" + Check.map("\"int\"") + ",\"int\",^" + Check.map("\"null\"") + "]");
        for (String f : new String[] {Check.fixed("A", 1), Check.symbols("A", "a"), Check.record("A")}) {
            Check.fault(6, "[" + f + ",^\"A\"]");
            Check.fault(6, "[" + f + ",\"int\",^{\"type\":\"A\"}]");
            Check.fault(6, "[" + Check.record("R", "a=" + f) + ",\"A\",^\"A\"]");
            Check.good("[" + f + "," + f.replace("\"A\"", "\"B\"") + "]");
            Check.fault(9, "[" + f + "," + f.replace("\"A\"", "^\"A\"") + "]");
        }
        // When it has been looked at: its own faults come first.
        Check.fault(3, "[" + Check.array("\"int\"") + "," + Check.array("^\"foo\"") + "]");
        Check.fault(8, "[" + Check.map("\"int\"") + ",^{\"type\":\"map\"}]");
        Check.fault(2, "[" + Check.map("\"int\"") + "," + Check.map("[^7]") + "]");
        // In order: 6 before what is wrong with those behind it.
        Check.fault(6, "[\"int\",^\"int\",7]");
        Check.fault(6, "[\"int\",^\"int\",\"int\"]");
        Check.fault(2, "[\"int\",^7,\"int\"]");
        Check.good("[" + Check.array("\"int\"") + "," + Check.map("\"int\"") + "]");
        Check.good("[\"int\",\"long\",\"bytes\",\"string\"]");
        Check.good("[\"int\"," + Check.array("[\"int\"]") + "]");
    }

    /** "An object: 7 at v unless its member "type" is a string" */
    private static void typesThatAreNoStrings() {
        for (String t : new String[] {"1", "null", "true", "false", "[]", "[\"int\"]", "{}", "{\"type\":\"int\"}"}) {
            Check.fault(7, "^{\"type\":" + t + "}");
            Check.fault(7, "^{\"name\":\"R\",\"fields\":[],\"type\":" + t + "}");
            Check.fault(7, Check.record("R", "a=^{\"type\":" + t + "}"));
        }
        for (String o : new String[] {"{}", "{\"Type\":\"int\"}", "{\"type \":\"int\"}", "{\"typ\":\"int\"}", "{\"types\":\"int\"}", "{\"\":\"int\"}"}) {
            Check.fault(7, "^" + o);
        }
        Check.good("{\"\\u0074ype\":\"int\"}");
    }

    /** "8 at v unless there is a member ..." */
    private static void membersThatLack() {
        for (String o : new String[] {"\"type\":\"array\"", "\"type\":\"array\",\"values\":\"int\"", "\"type\":\"array\",\"item\":\"int\"",
            "\"type\":\"map\"", "\"type\":\"map\",\"items\":\"int\"", "\"type\":\"map\",\"value\":\"int\""}) {
            Check.fault(8, "^{" + o + "}");
            Check.fault(8, "[\"int\",^{" + o + "}]");
        }
        String[] kinds = {"fixed", "enum", "record"};
        String[] rests = {",\"size\":1", ",\"symbols\":[\"a\"]", ",\"fields\":[]"};
        for (int k = 0; k < 3; k++) {
            Check.fault(8, "^" + named(kinds[k], "", rests[k]));
            for (String n : new String[] {"1", "null", "true", "[]", "[\"A\"]", "{}"}) {
                Check.fault(8, "^" + named(kinds[k], n, rests[k]));
            }
            Check.fault(8, "^" + named(kinds[k], "\"A\"", ""));
            Check.fault(8, "^" + named(kinds[k], "\"A\"", rests[(k + 1) % 3]));
            Check.fault(8, "^" + named(kinds[k], "\"A\"", rests[k].replace(",\"", ",\"x")));
            Check.good(named(kinds[k], "\"A\"", rests[k]));
            Check.good(named(kinds[k], "\"A\"", rests[0] + rests[1] + rests[2]));
        }
        for (String f : new String[] {"{\"type\":\"int\"}", "{}", "{\"name\":1,\"type\":\"int\"}", "{\"name\":null,\"type\":7}",
            "{\"name\":[\"a\"],\"type\":\"int\"}", "{\"name\":\"a\"}", "{\"name\":\"a\",\"typ\":\"int\"}", "{\"Name\":\"a\",\"type\":\"int\"}"}) {
            Check.fault(8, named("record", "\"R\"", ",\"fields\":[^" + f + "]"));
            Check.fault(8, named("record", "\"R\"", ",\"fields\":[{\"name\":\"z\",\"type\":\"int\"},^" + f + ",7]"));
        }
    }

    /** "10 at it unless it is a number 0 .. 64" */
    private static void sizesOfFixeds() {
        for (int n = 0; n <= 64; n++) {
            Check.good(Check.fixed("F", n));
        }
        Check.good(named("fixed", "\"F\"", ",\"size\":-0"));
        for (String s : new String[] {"-1", "65", "66", "-64", "100", "128", "255", "256", "257", "2147483647", "2147483648", "4294967295", "4294967296",
            "4294967297", "4294967360", "-4294967296", "-4294967232", "9223372036854775807", "-9223372036854775808", "-9223372036854775744",
            "\"1\"", "\"\"", "null", "true", "[]", "[1]", "{}"}) {
            Check.fault(10, named("fixed", "\"F\"", ",\"size\":^" + s));
            Check.fault(10, "{\"size\": ^" + s + " ,\"name\":\"F\",\"type\":\"fixed\"}");
        }
    }

    private static String list(int n) {
        StringBuilder b = new StringBuilder();
        for (int k = 0; k < n; k++) {
            b.append(k == 0 ? "" : ",").append("\"s").append(k).append('"');
        }
        return b.toString();
    }

    /** "11 at it unless it is a list of 1 .. 32" */
    private static void numbersOfSymbols() {
        for (int n = 1; n <= 32; n++) {
            Check.good(named("enum", "\"E\"", ",\"symbols\":[" + list(n) + "]"));
            Check.good(named("enum", "\"E\"", ",\"symbols\":[" + list(n) + "],\"default\":\"s" + (n - 1) + "\""));
        }
        for (int n : new int[] {0, 33, 34, 48, 64, 65, 300}) {
            Check.fault(11, named("enum", "\"E\"", ",\"symbols\":^[" + list(n) + "]"));
        }
        Check.fault(11, named("enum", "\"E\"", ",\"symbols\":^[" + "7,".repeat(32) + "7]"));
        Check.fault(11, named("enum", "\"E\"", ",\"symbols\":[^" + "7,".repeat(31) + "7]"));
        for (String v : new String[] {"1", "\"a\"", "null", "true", "{}", "{\"a\":\"b\"}", "0"}) {
            Check.fault(11, named("enum", "\"E\"", ",\"symbols\":^" + v));
        }
    }

    /** "11 at the first in it that is no string, no name, or there before it" */
    private static void symbolsThatAreNone() {
        for (String v : new String[] {"1", "null", "true", "false", "[]", "[\"b\"]", "{}", "{\"a\":\"b\"}", "\"\"", "\"1\"", "\"a b\""}) {
            Check.fault(11, named("enum", "\"E\"", ",\"symbols\":[^" + v + "]"));
            Check.fault(11, named("enum", "\"E\"", ",\"symbols\":[\"a\",\"b\",^" + v + "," + v + "]"));
            Check.fault(11, named("enum", "\"E\"", ",\"symbols\":[" + list(31) + ",^" + v + "]"));
        }
        Check.fault(11, named("enum", "\"E\"", ",\"symbols\":[\"a\",^\"a\"]"));
        Check.fault(11, named("enum", "\"E\"", ",\"symbols\":[\"a\",\"b\",\"c\",^\"b\",\"a\"]"));
        Check.fault(11, named("enum", "\"E\"", ",\"symbols\":[" + list(31) + ",^\"s0\"]"));
        Check.fault(11, named("enum", "\"E\"", ",\"symbols\":[" + list(31) + ",^\"s30\"]"));
        Check.fault(11, named("enum", "\"E\"", ",\"symbols\":[\"a\",^\"\\u0061\"]"));
        Check.good(named("enum", "\"E\"", ",\"symbols\":[\"a\",\"A\",\"aa\",\"_\",\"a_\",\"E\"]"));
        // Other enums' symbols are not there before it.
        Check.good("[" + Check.symbols("E", "a", "b") + "," + Check.symbols("F", "b", "a", "E") + "]");
    }

    /** "a member "default": 12 at it unless it is a string that is one of them" */
    private static void defaultsOfEnums() {
        for (String v : new String[] {"\"a\"", "\"b\"", "\"c\"", "\"\\u0063\""}) {
            Check.good(named("enum", "\"E\"", ",\"symbols\":[\"a\",\"b\",\"c\"],\"default\":" + v));
            Check.good("{\"default\":" + v + ",\"symbols\":[\"a\",\"b\",\"c\"],\"name\":\"E\",\"type\":\"enum\"}");
        }
        for (String v : new String[] {"\"d\"", "\"A\"", "\"\"", "\"ab\"", "\"E\"", "0", "1", "null", "true", "[]", "[\"a\"]", "{}", "{\"a\":1}"}) {
            Check.fault(12, named("enum", "\"E\"", ",\"symbols\":[\"a\",\"b\",\"c\"],\"default\":^" + v));
        }
        // At once, not behind all else as those of fields.
        Check.fault(12, "[" + named("enum", "\"E\"", ",\"symbols\":[\"a\"],\"default\":^1") + ",7]");
        Check.fault(12, "[" + Check.symbols("D", "x") + "," + named("enum", "\"E\"", ",\"symbols\":[\"a\"],\"default\":^\"x\"") + "]");
        // "Other members do not count": what has no default of its own here.
        Check.good("[{\"type\":\"int\",\"default\":null}," + named("fixed", "\"F\"", ",\"size\":1,\"default\":1")
                + "," + named("record", "\"R\"", ",\"fields\":[],\"default\":[]") + ",{\"type\":\"array\",\"items\":\"int\",\"default\":7}]");
    }

    private static String fields(int n) {
        StringBuilder b = new StringBuilder();
        for (int k = 0; k < n; k++) {
            b.append(k == 0 ? "" : ",").append("{\"name\":\"s").append(k).append("\",\"type\":\"int\"}");
        }
        return b.toString();
    }

    /** "11 at it unless it is a list of 32 at most" */
    private static void numbersOfFields() {
        for (int n = 0; n <= 32; n++) {
            Check.good(named("record", "\"R\"", ",\"fields\":[" + fields(n) + "]"));
        }
        for (int n : new int[] {33, 34, 64, 65, 100}) {
            Check.fault(11, named("record", "\"R\"", ",\"fields\":^[" + fields(n) + "]"));
        }
        Check.fault(11, named("record", "\"R\"", ",\"fields\":^[" + "7,".repeat(32) + "7]"));
        Check.fault(11, named("record", "\"R\"", ",\"fields\":[^" + "7,".repeat(31) + "7]"));
        for (String v : new String[] {"1", "\"a\"", "null", "true", "{}", "{\"name\":\"a\",\"type\":\"int\"}", "0"}) {
            Check.fault(11, named("record", "\"R\"", ",\"fields\":^" + v));
        }
    }

    /** "then each in order: 11 at it unless it is an object; ... 9 at that if it is no name, or that of a field before it" */
    private static void fieldsThatAreNone() {
        for (String v : new String[] {"1", "null", "true", "[]", "\"a\"", "[\"a\",\"int\"]"}) {
            Check.fault(11, named("record", "\"R\"", ",\"fields\":[^" + v + "]"));
            Check.fault(11, named("record", "\"R\"", ",\"fields\":[" + fields(31) + ",^" + v + "]"));
        }
        Check.fault(9, Check.record("R", "a=\"int\"", "b=\"int\"", "c=\"int\"").replace("\"c\"", "^\"a\""));
        Check.fault(9, Check.record("R", "a=\"int\"", "b=\"int\"", "c=\"int\"").replace("\"c\"", "^\"b\""));
        Check.fault(9, Check.record("R", "a=\"int\"", "c=\"int\"").replace("\"c\"", "^\"\\u0061\""));
        Check.fault(9, named("record", "\"R\"", ",\"fields\":[" + fields(31) + ",{\"name\":^\"s30\"}]"));
        Check.fault(9, named("record", "\"R\"", ",\"fields\":[" + fields(31) + ",{\"name\":^\"s0\"}]"));
        Check.good(Check.record("R", "a=\"int\"", "A=\"int\"", "aa=\"int\"", "a_=\"int\"", "R=\"int\""));
        // Fields of other records are not before it.
        Check.good(Check.record("R", "a=" + Check.record("S", "a=\"int\"", "b=\"int\""), "b=\"int\"", "c=" + Check.record("T", "a=\"int\"", "c=\"int\"")));
    }

    /** "Anything else: 2 at v." */
    private static void anythingElse() {
        for (String v : new String[] {"0", "-1", "9223372036854775807", "true", "false", "null"}) {
            Check.fault(2, "^" + v);
            Check.fault(2, " ^" + v + " ");
            Check.fault(2, "[^" + v + "]");
            Check.fault(2, Check.array("^" + v));
            Check.fault(2, Check.map("^" + v));
            Check.fault(2, Check.record("R", "a=^" + v));
        }
    }

    /** "Other members do not count." */
    private static void otherMembers() {
        String any = ",\"name\":[7],\"items\":[],\"values\":7,\"size\":-1,\"symbols\":{},\"fields\":null,\"default\":{},\"\":[{}],\"x\":\"foo\"";
        for (String s : SIX) {
            Check.good("{\"type\":\"" + s + "\"" + any + "}");
        }
        Check.good("{\"type\":\"array\"" + any.replace("\"items\":[]", "\"items\":\"int\"") + "}");
        Check.good("{\"type\":\"map\"" + any.replace("\"values\":7", "\"values\":\"int\"") + "}");
        Check.good("{\"type\":\"fixed\"" + any.replace("[7]", "\"F\"").replace("-1", "1") + "}");
        String ofEnum = any.replace("[7]", "\"F\"").replace("\"symbols\":{}", "\"symbols\":[\"a\"]");
        Check.good("{\"type\":\"enum\"" + ofEnum.replace("\"default\":{}", "\"default\":\"a\"") + "}");
        Check.good("{\"type\":\"record\"" + any.replace("[7]", "\"F\"").replace("\"fields\":null", "\"fields\":[]") + "}");
        Check.good(named("record", "\"R\"", ",\"fields\":[{\"type\":\"R\",\"items\":7,\"name\":\"a\",\"size\":-1,\"symbols\":{},\"fields\":7}]"));
        Check.good("[" + Check.fixed("F", 1) + "," + Check.array("{\"type\":\"F\"" + any + "}") + "]");
    }

    /** "looked at in this order; the first FAULT ends all" */
    private static void orderOfLooks() {
        Check.fault(7, "^{\"items\":7,\"size\":7}");
        Check.fault(8, "^{\"size\":-1,\"type\":\"fixed\"}");
        Check.fault(9, "{\"size\":-1,\"type\":\"fixed\",\"name\":^\"int\"}");
        Check.fault(9, "{\"type\":\"fixed\",\"name\":^\"1\"}");
        Check.fault(8, "^{\"type\":\"fixed\",\"name\":\"A\"}");
        Check.fault(8, "^{\"symbols\":[1],\"default\":1,\"type\":\"enum\"}");
        Check.fault(9, "{\"symbols\":[1],\"default\":1,\"type\":\"enum\",\"name\":^\"\"}");
        Check.fault(8, "^{\"default\":1,\"type\":\"enum\",\"name\":\"E\"}");
        Check.fault(11, "{\"default\":1,\"type\":\"enum\",\"name\":\"E\",\"symbols\":^{}}");
        Check.fault(11, "{\"default\":1,\"type\":\"enum\",\"name\":\"E\",\"symbols\":[\"a\",^1]}");
        Check.fault(12, "{\"default\":^1,\"type\":\"enum\",\"name\":\"E\",\"symbols\":[\"a\"]}");
        Check.fault(8, "^{\"fields\":[7],\"type\":\"record\"}");
        Check.fault(9, "{\"fields\":[7],\"type\":\"record\",\"name\":^\"a-\"}");
        Check.fault(11, "{\"fields\":[^7],\"type\":\"record\",\"name\":\"R\"}");
        Check.fault(8, "{\"fields\":[^{\"type\":7,\"default\":1},7],\"type\":\"record\",\"name\":\"R\"}");
        Check.fault(9, "{\"fields\":[{\"type\":7,\"default\":1,\"name\":^\"\"},7],\"type\":\"record\",\"name\":\"R\"}");
        Check.fault(8, "{\"fields\":[^{\"default\":1,\"name\":\"a\"},7],\"type\":\"record\",\"name\":\"R\"}");
        Check.fault(2, "{\"fields\":[{\"type\":^7,\"default\":1,\"name\":\"a\"},7],\"type\":\"record\",\"name\":\"R\"}");
        Check.fault(11, "{\"fields\":[{\"type\":\"null\",\"default\":1,\"name\":\"a\"},^7],\"type\":\"record\",\"name\":\"R\"}");
        Check.fault(12, "{\"fields\":[{\"type\":\"null\",\"default\":^1,\"name\":\"a\"}],\"type\":\"record\",\"name\":\"R\"}");
        // A name that is no name defines nothing; one with a fault behind it ends all.
        Check.fault(8, "[^{\"type\":\"fixed\",\"name\":\"A\"},\"A\"]");
        Check.fault(9, "[{\"type\":\"fixed\",\"name\":^\"1\",\"size\":1},\"1\"]");
    }
}
