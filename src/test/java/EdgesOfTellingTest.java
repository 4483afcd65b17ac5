import java.util.ArrayList;
import java.util.List;

/** Each sentence of the document's part on telling again (read, all, MATCHES, FITS) that names an edge. */
public final class EdgesOfTellingTest {
    private static final String[] SIX = {"null", "boolean", "int", "long", "bytes", "string"};
    private static final String[] SIX_ROWS = {"", "1", "5", "7", "2 65", "4 66 67"};

    public static void main(String[] args) {
        writersUnion();
        readersUnion();
        unionsOfBoth();
        sixWords();
        listsAndMaps();
        withoutItems();
        fixeds();
        enums();
        records();
        orderOfFields();
        recordsOfNoBytes();
        matches();
        asDeepAsCanBe();
        asManyAsCanBe();
        outIsFull();
        fullOrUnresolved();
        rowsUpToTheFirst();
        fitsOfUnions();
        fitsOfOthers();
        fitsOfRecords();
        askedForAlready();
        fitsIsAsToldSo();
        Check.done();
    }

    private static String quoted(String word) {
        return "\"" + word + "\"";
    }

    /** Every datum of both is told through a record, so that those of no byte can be too. */
    private static void told(String w, String row, String r, String due) {
        Check.told(Check.record("Top", "k=\"boolean\"", "d=" + w), ("1 " + row).trim(), Check.record("Top", "d=" + r, "k=\"boolean\""),
                due.startsWith("-") ? due : (due + " 1").trim());
        Check.told(Check.array(w), row.isEmpty() ? "2 0" : "2 " + row + " 0", Check.array(r),
                due.startsWith("-") ? due : due.isEmpty() ? "2 0" : "2 " + due + " 0");
        Check.told(Check.map(w), ("2 2 75 " + row).trim() + " 0", Check.map(r), due.startsWith("-") ? due : ("2 2 75 " + due).trim() + " 0");
    }

    /** "if w is a union: its branch's datum is told as r" */
    private static void writersUnion() {
        for (int k = 0; k < 6; k++) {
            String u = "[\"" + String.join("\",\"", SIX) + "\"]";
            told(u, (2 * k + " " + SIX_ROWS[k]).trim(), quoted(SIX[k]), SIX_ROWS[k]);
            told(u, (2 * k + " " + SIX_ROWS[k]).trim(), quoted(SIX[(k + 1) % 2 + (k < 2 ? 2 : 0)]), "-20");
            told("[" + quoted(SIX[k]) + "]", ("0 " + SIX_ROWS[k]).trim(), quoted(SIX[k]), SIX_ROWS[k]);
        }
        // Of a branch that is not there nothing is unresolved.
        told("[\"int\",\"string\"]", "0 5", "\"long\"", "5");
        told("[\"int\",\"string\"]", "2 2 65", "\"long\"", "-20");
        String[] sixteen = new String[16];
        for (int k = 0; k < 16; k++) {
            sixteen[k] = Check.fixed("F" + k, k);
        }
        String all = "[" + String.join(",", sixteen) + "]";
        told(all, "30" + " 9".repeat(15), Check.fixed("F15", 15), "9 ".repeat(15).trim());
        told(all, "0", Check.fixed("F0", 0), "");
        told(all, "28" + " 9".repeat(14), Check.fixed("F15", 15), "-20");
    }

    /** "Else if r is a union: the first branch that MATCHES w is taken, its number, and the datum told as that." */
    private static void readersUnion() {
        String u = "[\"" + String.join("\",\"", SIX) + "\"]";
        int[] taken = {0, 1, 2, 3, 4, 4};
        for (int k = 0; k < 6; k++) {
            told(quoted(SIX[k]), SIX_ROWS[k], u, (2 * taken[k] + " " + SIX_ROWS[k]).trim());
            told(quoted(SIX[k]), SIX_ROWS[k], "[" + quoted(SIX[k]) + "]", ("0 " + SIX_ROWS[k]).trim());
        }
        told("\"int\"", "5", "[\"long\",\"int\"]", "0 5");
        told("\"long\"", "5", "[\"int\",\"long\"]", "2 5");
        told("\"bytes\"", "2 65", "[\"string\",\"bytes\"]", "0 2 65");
        told("\"boolean\"", "1", "[\"null\",\"int\",\"string\"]", "-20");
        StringBuilder sixteen = new StringBuilder();
        for (int k = 0; k < 15; k++) {
            sixteen.append(Check.fixed("F" + k, k)).append(',');
        }
        told("\"int\"", "5", "[" + sixteen + "\"int\"]", "30 5");
        told(Check.fixed("F14", 14), "7 ".repeat(14).trim(), "[" + sixteen + "\"int\"]", "28" + " 7".repeat(14));
        told(Check.fixed("F0", 0), "", "[" + sixteen + "\"int\"]", "0");
        // The first that matches, whether or not it can be told so.
        told(Check.symbols("E", "a", "b"), "2", "[" + Check.symbols("E", "a") + ",\"int\"]", "-20");
        told(Check.symbols("E", "a", "b"), "0", "[" + Check.symbols("E", "a") + ",\"int\"]", "0 0");
        told(Check.array("[\"int\"]"), "2 0 5 0", "[" + Check.array("\"string\"") + ",\"int\"]", "-20");
    }

    private static void unionsOfBoth() {
        told("[\"null\",\"int\"]", "0", "[\"null\",\"int\"]", "0");
        told("[\"null\",\"int\"]", "2 5", "[\"long\",\"null\"]", "0 5");
        told("[\"null\",\"int\"]", "0", "[\"long\",\"null\"]", "2");
        told("[\"null\",\"int\"]", "2 5", "[\"null\",\"string\"]", "-20");
        told("[\"null\",\"int\"]", "0", "[\"null\",\"string\"]", "0");
        told("[" + Check.map("[\"int\",\"null\"]") + "]", "0 4 0 2 0 0 5 0", "[" + Check.map("[\"null\",\"int\"]") + "]", "0 4 0 0 0 2 5 0");
    }

    /** "the same one of the six: as it is; INT as LONG; BYTES as STRING and STRING as BYTES: the same bytes" */
    private static void sixWords() {
        for (int w = 0; w < 6; w++) {
            for (int r = 0; r < 6; r++) {
                boolean can = w == r || w == 2 && r == 3 || w == 4 && r == 5 || w == 5 && r == 4;
                told(quoted(SIX[w]), SIX_ROWS[w], quoted(SIX[r]), can ? SIX_ROWS[w] : "-20");
            }
            for (String r : new String[] {Check.array(quoted(SIX[w])), Check.map(quoted(SIX[w])), Check.fixed("F", 1), Check.symbols("E", "a"),
                Check.record("R"), Check.record("R", "a=" + quoted(SIX[w]))}) {
                told(quoted(SIX[w]), SIX_ROWS[w], r, "-20");
            }
        }
        for (long v : new long[] {0, -1, 63, -64, 64, -65, Integer.MAX_VALUE, Integer.MIN_VALUE}) {
            told("\"int\"", Check.varint(v), "\"long\"", Check.varint(v));
            told("\"long\"", Check.varint(v), "\"int\"", "-20");
        }
        for (long v : new long[] {1L << 31, -(1L << 31) - 1, Long.MAX_VALUE, Long.MIN_VALUE}) {
            told("\"long\"", Check.varint(v), "\"long\"", Check.varint(v));
            told("\"long\"", Check.varint(v), "[\"int\",\"long\"]", "2 " + Check.varint(v));
        }
        for (int n : new int[] {0, 1, 63, 64, 1000}) {
            String s = Check.varint(n) + " 255".repeat(n);
            told("\"bytes\"", s, "\"string\"", s);
            told("\"string\"", s, "\"bytes\"", s);
        }
    }

    /** "arrays, maps: all items (keys as they are ...)" */
    private static void listsAndMaps() {
        told(Check.array("\"int\""), "4 5 6 2 7 0", Check.array("\"long\""), "6 5 6 7 0");
        told(Check.array("\"int\""), "1 2 5 0", Check.array("[\"null\",\"long\"]"), "2 2 5 0");
        told(Check.array("\"int\""), "4 5 6 0", Check.array("\"string\""), "-20");
        told(Check.array("[\"int\",\"null\"]"), "4 0 5 0 6 0", Check.array("\"int\""), "4 5 6 0");
        told(Check.array("[\"int\",\"null\"]"), "4 0 5 2 0", Check.array("\"int\""), "-20");
        told(Check.map("\"int\""), "4 0 5 4 255 0 6 2 2 65 7 0", Check.map("\"long\""), "6 0 5 4 255 0 6 2 65 7 0");
        told(Check.map("\"int\""), "4 2 65 5 2 65 6 0", Check.map("[\"int\"]"), "4 2 65 0 5 2 65 0 6 0");
        told(Check.map("\"int\""), "2 0 5 0", Check.map("\"string\""), "-20");
        told(Check.array("\"int\""), "2 5 0", Check.map("\"int\""), "-20");
        told(Check.map("\"int\""), "2 0 5 0", Check.array("\"int\""), "-20");
        told(Check.array("\"null\""), "127 0 0", Check.array("[\"null\"]"), "128 1" + " 0".repeat(64) + " 0");
        Check.told(Check.array("\"null\""), "160 31 0", Check.array("\"null\""), "160 31 0");
        Check.told(Check.array("\"null\""), "160 31 0", Check.array("[\"int\",\"null\"]"), "160 31" + " 2".repeat(2000) + " 0");
        told(Check.map("\"null\""), "128 1" + " 0".repeat(64) + " 0", Check.map("\"null\""), "128 1" + " 0".repeat(64) + " 0");
    }

    /** "(... without items nothing is unresolved, whatever their schemas are)" */
    private static void withoutItems() {
        String[] types = {"\"null\"", "\"int\"", "\"string\"", "[\"int\"]", Check.fixed("F", 3), Check.symbols("E", "a"), Check.record("R", "a=\"int\""),
            Check.array("\"boolean\""), Check.map("\"long\"")};
        for (int w = 0; w < types.length; w++) {
            for (int r = 0; r < types.length; r++) {
                told(Check.array(types[w]), "0", Check.array(types[r]), "0");
                told(Check.map(types[w]), "0", Check.map(types[r]), "0");
                told(Check.array(types[w]), "0", Check.map(types[r]), "-20");
                told(Check.map(types[w]), "0", Check.array(types[r]), "-20");
            }
        }
        // As a union's branch it has to match, items or not.
        told(Check.array("\"int\""), "0", "[" + Check.array("\"string\"") + "]", "-20");
        told(Check.array("\"int\""), "0", "[" + Check.map("\"int\"") + "]", "-20");
        told(Check.map("\"int\""), "0", "[" + Check.array("\"int\"") + "," + Check.map("\"long\"") + "]", "2 0");
        told(Check.array(Check.array("\"int\"")), "2 0 0", Check.array(Check.array("\"string\"")), "2 0 0");
        told(Check.array(Check.array("\"int\"")), "2 0 0", Check.array(Check.map("\"int\"")), "-20");
    }

    /** "FIXED of the same name and size" */
    private static void fixeds() {
        for (int n : new int[] {0, 1, 63, 64}) {
            String bytes = "200 ".repeat(n).trim();
            told(Check.fixed("F", n), bytes, Check.fixed("F", n), bytes);
            told(Check.fixed("F", n), bytes, Check.fixed("F", n == 64 ? 63 : n + 1), "-20");
            told(Check.fixed("F", n), bytes, Check.fixed("f", n), "-20");
            told(Check.fixed("F", n), bytes, Check.fixed("FF", n), "-20");
            told(Check.fixed("FF", n), bytes, Check.fixed("F", n), "-20");
            told(Check.fixed("F", n), bytes, "\"bytes\"", "-20");
            told(Check.fixed("F", n), bytes, Check.record("F"), "-20");
            told(Check.fixed("F", n), bytes, Check.symbols("F", "a"), "-20");
        }
        String longest = "n".repeat(31);
        told(Check.fixed(longest + "a", 1), "3", Check.fixed(longest + "a", 1), "3");
        told(Check.fixed(longest + "a", 1), "3", Check.fixed(longest + "b", 1), "-20");
    }

    /** "ENUM of the same name: the symbol of r that is the same, or else r's default" */
    private static void enums() {
        String w = Check.symbols("E", "a", "b", "c", "ab");
        told(w, "0", Check.symbols("E", "a"), "0");
        told(w, "6", Check.symbols("E", "a", "b", "ab"), "4");
        told(w, "2", Check.symbols("E", "a", "c", "ab"), "-20");
        told(w, "2", Check.symbols("E", "=a", "c", "ab"), "0");
        told(w, "2", Check.symbols("E", "a", "c", "=ab"), "4");
        told(w, "4", Check.symbols("E", "=a", "c"), "2");
        told(w, "0", Check.symbols("E", "=c", "b", "a"), "4");
        told(w, "0", Check.symbols("D", "=a", "b", "c"), "-20");
        told(Check.symbols("E", "a", "=b"), "0", Check.symbols("E", "b"), "-20");
        told(Check.symbols("E", "a"), "0", Check.symbols("E", "A"), "-20");
        String[] symbols = new String[32];
        String[] turned = new String[32];
        for (int k = 0; k < 32; k++) {
            symbols[k] = "s" + k;
            turned[31 - k] = "s" + k;
        }
        for (int k : new int[] {0, 1, 30, 31}) {
            told(Check.symbols("E", symbols), "" + 2 * k, Check.symbols("E", turned), "" + 2 * (31 - k));
        }
    }

    /**
     * "RECORD of the same name: for each of r's fields in order: the datum of w's field of the same name, told as that;
     * or else its default ... UNRESOLVED: ... a symbol or field of which there is neither."
     */
    private static void records() {
        String w = Check.record("R", "a=\"int\"", "b=\"string\"");
        String row = "5 2 65";
        told(w, row, Check.record("R", "a=\"int\"", "b=\"string\""), row);
        told(w, row, Check.record("R"), "");
        told(w, row, Check.record("S", "a=\"int\"", "b=\"string\""), "-20");
        told(w, row, Check.record("S"), "-20");
        told(w, row, Check.record("R", "c=\"int\""), "-20");
        told(w, row, Check.record("R", "c=\"int\"=7"), "14");
        told(w, row, Check.record("R", "A=\"int\"=7", "aa=\"int\"=8"), "14 16");
        told(w, row, Check.record("R", "c=\"null\""), "-20");
        told(w, row, Check.record("R", "c=\"null\"=null"), "");
        told(w, row, Check.record("R", "c=" + Check.array("\"int\"")), "-20");
        // A default does not help where there is a field of that name.
        told(w, row, Check.record("R", "b=\"int\"=7"), "-20");
        told(w, row, Check.record("R", "a=\"null\"=null"), "-20");
        told(Check.record("R"), "", Check.record("R"), "");
        told(Check.record("R"), "", Check.record("R", "a=\"int\""), "-20");
        told(Check.record("R"), "", Check.record("R", "a=\"int\"=-1"), "1");
        // The writer's defaults and its fields that are not asked for have no say.
        told(Check.record("R", "a=\"int\"=3"), "5", Check.record("R", "a=\"int\"=4", "b=\"int\"=5"), "5 10");
        told(Check.record("R", "a=[\"null\",\"int\"]", "b=\"int\""), "2 9 4", Check.record("R", "b=\"int\""), "4");
    }

    /** "for each of r's fields in order": two unresolved or full ones are told apart by it, and what is read is where it stands. */
    private static void orderOfFields() {
        String[] names = {"a", "b", "c", "d"};
        String[] types = {"\"int\"", "\"string\"", Check.array("\"boolean\""), Check.record("S", "x=\"int\"", "y=\"bytes\"")};
        String[] rows = {"129 1", "4 66 67", "4 1 0 0", "3 2 65"};
        List<String> all = new ArrayList<>();
        for (int k = 0; k < 4; k++) {
            all.add(names[k] + "=" + types[k]);
        }
        String w = Check.record("R", all.toArray(new String[0]));
        for (int first = 0; first < 4; first++) {
            for (int second = 0; second < 4; second++) {
                if (first == second) {
                    continue;
                }
                for (int third = 0; third < 4; third++) {
                    boolean more = third != first && third != second;
                    String r = more ? Check.record("R", all.get(first), all.get(second), all.get(third)) : Check.record("R", all.get(first), all.get(second));
                    told(w, String.join(" ", rows), r, rows[first] + " " + rows[second] + (more ? " " + rows[third] : ""));
                }
            }
        }
        String[] fields = new String[32];
        String[] turned = new String[32];
        StringBuilder row = new StringBuilder();
        StringBuilder back = new StringBuilder();
        for (int k = 0; k < 32; k++) {
            fields[k] = "f" + k + "=\"int\"";
            turned[31 - k] = "f" + k + "=\"long\"";
            row.append(k == 0 ? "" : " ").append(2 * k);
            back.append(k == 0 ? "" : " ").append(2 * (31 - k));
        }
        told(Check.record("W", fields), row.toString(), Check.record("W", turned), back.toString());
        told(Check.record("W", fields), row.toString(), Check.record("W", "f31=\"int\"", "f0=\"int\""), "62 0");
    }

    /** "its default, made into bytes": by a record that has no bytes of its own, time and again, in one row and in many. */
    private static void recordsOfNoBytes() {
        String w = Check.record("T", "s=\"string\"", "a=" + Check.record("E"), "o=" + Check.record("O", "e=\"E\"", "n=\"null\"", "f=\"E\""),
                "u=[\"int\",\"E\"]", "l=" + Check.array("\"E\""), "m=" + Check.map("\"O\""));
        String five = Check.record("T", "s=\"string\"", "a=" + Check.record("E", "x=\"int\"=-5", "y=\"string\"=\"hi\""),
                "o=" + Check.record("O", "f=[\"null\",\"E\"]", "n=\"null\"", "z=\"int\"=1", "e=\"E\""),
                "l=" + Check.array("\"E\""), "m=" + Check.map("[\"O\",\"E\"]"), "u=[\"null\",\"E\",\"int\"]");
        String seven = Check.record("T", "m=" + Check.map(Check.record("O", "e=" + Check.record("E", "q=\"int\"=7"))),
                "a=\"E\"", "s=\"bytes\"", "l=" + Check.array("\"E\""));
        Check c = new Check().keep(0, w).keep(1, five).keep(2, seven);
        Check.due("rows", c.load(0, Check.numbers("2 65  2  4 0  2 2 66 0"
                + "  0  0 4  0  0"
                + "  4 67 68  2  0  4 2 69 2 70 0")), "3");
        String e = "9 4 104 105";
        String o = "2 " + e + " 2 " + e;
        String[] asFive = {"2 65 " + e + " " + o + " 4 " + e + " " + e + " 0 2 2 66 0 " + o + " 0 2 " + e,
            "0 " + e + " " + o + " 0 0 4 4",
            "4 67 68 " + e + " " + o + " 0 4 2 69 0 " + o + " 2 70 0 " + o + " 0 2 " + e};
        String[] asSeven = {"2 2 66 14 0 14 2 65 4 14 14 0", "0 14 0 0", "4 2 69 14 2 70 14 0 14 4 67 68 0"};
        for (int turn = 0; turn < 6; turn++) {
            int i = turn * 2 % 3;
            Check.due("row " + i + " as five", c.read(1, i), asFive[i]);
            Check.due("row " + i + " as seven", c.read(2, i), asSeven[i]);
            Check.due("all as five", c.teller.all(1), 3);
            Check.due("row " + (2 - i) + " as five", c.read(1, 2 - i), asFive[2 - i]);
            Check.due("all as seven", c.teller.all(2), 3);
        }
        noBytesButFull();
        // One that has bytes is told from its own each time, also where all have as many.
        Check.told(Check.array(Check.record("E", "x=\"boolean\"", "y=" + Check.fixed("F", 2))), "6 0 7 8 1 9 10 0 11 12 0",
                Check.array(Check.record("E", "y=" + Check.fixed("F", 2), "d=\"int\"=1", "x=\"boolean\"")),
                "6 7 8 2 0 9 10 2 1 11 12 2 0 0");
    }

    /** A hundred bytes by each item of none: forty, and a string of 92 bytes, are told; of 93 they are not. */
    private static void noBytesButFull() {
        String y = "y=\"string\"=\"" + "y".repeat(98) + "\"";
        Check c = new Check().keep(0, Check.record("T", "l=" + Check.array(Check.record("E")), "s=\"string\""))
                .keep(1, Check.record("T", "l=" + Check.array(Check.record("E", y)), "s=\"string\""))
                .keep(2, Check.record("T", "l=" + Check.array(Check.record("E", y, "z=\"int\"")), "s=\"string\""));
        String s92 = Check.varint(92) + " 65".repeat(92);
        String s93 = Check.varint(93) + " 65".repeat(93);
        Check.due("rows", c.load(0, Check.numbers("80 0 " + s92 + " 0 " + s92 + " 80 0 " + s93 + " 82 0 0")), "4");
        Check.due("a row that just has room", c.teller.read(1, 0), 4096);
        Check.due("one without items", c.teller.read(1, 1), 95);
        Check.due("a byte more", c.teller.read(1, 2), RecordTeller.FULL);
        Check.due("an item more", c.teller.read(1, 3), RecordTeller.FULL);
        Check.due("again", c.teller.read(1, 0), 4096);
        Check.due("the last item's last byte", c.teller.letter(4000, 1), 121);
        Check.due("the items' end", c.teller.letter(4001, 1), 0);
        Check.due("what is behind it", c.teller.letter(4002, 1), 184);
        Check.due("all", c.teller.all(1), 2);
        Check.due("what no item can be", c.teller.read(2, 0) + " " + c.teller.read(2, 3), "-20 -20");
        Check.due("without items", c.teller.read(2, 1), 95);
        Check.due("all", c.teller.all(2), 0);
    }

    /**
     * "MATCHES: either is a union; the same one of the six; INT as LONG; BYTES, STRING; arrays or maps whose items match;
     * FIXED of the same name and size, ENUM, RECORD of the same name."
     */
    private static void matches() {
        String[] types = {"\"null\"", "\"boolean\"", "\"int\"", "\"long\"", "\"bytes\"", "\"string\"", Check.array("\"int\""), Check.map("\"int\""),
            Check.fixed("A", 2), Check.fixed("A", 3), Check.fixed("B", 2), Check.symbols("A", "a"), Check.symbols("C", "a"), Check.record("A", "a=\"int\""),
            Check.record("D"), Check.array(Check.array("\"int\"")), Check.array("[\"null\"]"), Check.map("[\"null\"]")};
        for (int w = 0; w < types.length; w++) {
            for (int r = 0; r < types.length; r++) {
                boolean same = w == r || w == 2 && r == 3 || w == 4 && r == 5 || w == 5 && r == 4 || w == 6 && r == 16 || w == 7 && r == 17
                        || w == 16 && (r == 6 || r == 15) || w == 17 && r == 7 || w == 15 && r == 16;
                // Whether an array of none of them can be told as a union with such an array shows whether they match.
                told(Check.array(types[w]), "0", "[\"int\"," + Check.array(types[r]) + "]", same ? "2 0" : "-20");
                told(Check.map(types[w]), "0", "[" + Check.array("[\"null\"]") + "," + Check.map(types[r]) + "]", same ? "2 0" : "-20");
                told(Check.array(Check.map(types[w])), "0", "[" + Check.array(Check.map(types[r])) + "]", same ? "0 0" : "-20");
                told(Check.array(Check.map(types[w])), "0", "[" + Check.array(Check.array(types[r])) + "]", "-20");
            }
            told(Check.array(types[w]), "0", "[" + Check.array("[\"string\"]") + "]", "0 0");
            told(Check.array("[" + types[w] + "]"), "0", "[" + Check.array("\"string\"") + "]", "0 0");
        }
        // Records by their name alone, enums too; whatever lies in them.
        told(Check.array(Check.record("R", "a=\"int\"")), "0", "[" + Check.array(Check.record("R", "b=\"string\"")) + "]", "0 0");
        told(Check.array(Check.symbols("E", "a")), "0", "[" + Check.array(Check.symbols("E", "b")) + "]", "0 0");
        String deep = "\"int\"";
        String other = "\"long\"";
        String wrong = "\"string\"";
        for (int k = 0; k < 11; k++) {
            deep = k % 2 == 0 ? Check.array(deep) : Check.map(deep);
            other = k % 2 == 0 ? Check.array(other) : Check.map(other);
            wrong = k % 2 == 0 ? Check.array(wrong) : Check.map(wrong);
        }
        told(deep, "0", "[" + other + "]", "0 0");
        told(deep, "0", "[" + wrong + "]", "-20");
    }

    /** Rows of data that lie in 31 others. */
    private static void asDeepAsCanBe() {
        String tree = Check.record("C", "n=" + Check.array("\"C\""), "z=\"int\"");
        String row = "2 ".repeat(15) + "0 3" + " 0 5".repeat(15);
        Check.told(tree, row, tree, row);
        Check.told(tree, row, Check.record("C", "z=\"long\"", "n=" + Check.array("[\"C\"]")),
                "5 2 0 ".repeat(15) + "3 0" + " 0".repeat(15));
        Check.told(tree, row, Check.record("C", "z=\"long\""), "5");
        Check.told(tree, row, Check.record("C", "q=\"int\"=1", "n=" + Check.array("\"C\"")), "2 2 ".repeat(15) + "2 0" + " 0".repeat(15));
        Check.told(tree, row, Check.record("C", "n=" + Check.array("\"C\""), "q=\"int\""), "-20");
        String maps = Check.record("C", "n=" + Check.map("\"C\""), "z=\"int\"");
        String keys = "2 2 75 ".repeat(15) + "0 3" + " 0 5".repeat(15);
        Check.told(maps, keys, maps, keys);
        Check.told(maps, keys, Check.record("C", "z=\"int\"", "n=" + Check.map("\"C\"")), "5 2 2 75 ".repeat(15) + "3 0" + " 0".repeat(15));
        String unions = Check.record("C", "n=[\"null\",\"C\"]", "z=\"int\"");
        String branches = "2 ".repeat(14) + "0 3" + " 5".repeat(14);
        Check.told(unions, branches, unions, branches);
        Check.told(unions, branches, Check.record("C", "z=\"int\"", "n=[\"C\",\"null\"]"), "5 0 ".repeat(14) + "3 2");
        Check.told(unions, branches, Check.record("C", "z=\"int\""), "5");
        Check.told(unions, branches, Check.record("C", "n=\"C\""), "-20");
        String in31 = Check.record("T", "c=" + Check.record("C", "n=[\"C\"," + Check.record("L", "x=\"int\"") + "]"));
        Check.told(in31, "0 ".repeat(13) + "2 9", in31, "0 ".repeat(13) + "2 9");
        in31 = Check.record("C", "n=[\"C\"," + Check.record("L", "x=\"int\"") + "]");
        Check.told(in31, "0 ".repeat(14) + "2 9", in31, "0 ".repeat(14) + "2 9");
        Check.told(in31, "0 ".repeat(14) + "2 9", in31.replace("\"int\"", "\"long\""), "0 ".repeat(14) + "2 9");
        Check.told(in31, "0 ".repeat(14) + "2 9", in31.replace("\"int\"", "\"null\""), "-20");
    }

    /** Rows of 4000 data, of 2000 items, and as many rows as a tape has bytes. */
    private static void asManyAsCanBe() {
        String pair = Check.record("P", "x=\"null\"");
        String other = Check.record("P", "y=\"boolean\"=true");
        Check.told(Check.record("W", "a=" + Check.array(pair)), Check.varint(1999) + " 0", Check.record("W", "a=" + Check.array(other)),
                Check.varint(1999) + " 1".repeat(1999) + " 0");
        Check.told(Check.record("W", "a=" + Check.array(pair), "z=\"int\""), Check.varint(1998) + " 0 9", Check.record("W", "z=\"int\""), "9");
        Check.told(Check.array("\"boolean\""), "160 31" + " 1".repeat(2000) + " 0", Check.array("[\"boolean\"]"), "160 31" + " 0 1".repeat(2000) + " 0");
        Check.told(Check.record("W", "m=" + Check.map("\"null\""), "z=\"int\""), "160 31" + " 0".repeat(2000) + " 0 9", Check.record("W", "z=\"int\""), "9");
        Check c = new Check().keep(0, "[\"null\"]").keep(1, "\"null\"").keep(2, "[\"int\",\"null\"]");
        c.load(0, new byte[4096]);
        Check.due("4096 rows", c.teller.all(2), 4096);
        Check.due("of no byte", c.teller.all(1), 4096);
        Check.due("the last", c.read(2, 4095), "2");
        Check.due("of no byte", c.read(1, 4095), "");
        Check.due("none behind it", Check.answer(() -> c.teller.read(2, 4096)), "throws.IndexOutOfBoundsException");
    }

    private static String letters(int n) {
        return "\"string\"=\"" + "y".repeat(n) + "\"";
    }

    /** A row of a string that has so many bytes when it is told, its length and all. */
    private static byte[] stringOf(int bytes) {
        int length = bytes < 65 ? bytes - 1 : bytes - 2;
        return Check.join(Check.numbers(Check.varint(length)), new byte[length]);
    }

    /** "FULL (a byte behind 4096)" */
    private static void outIsFull() {
        String w = Check.record("R", "s=\"string\"");
        String[] types = {"\"boolean\"=true", "\"int\"=0", "\"long\"=-1", "\"string\"=\"\"", "\"bytes\"=\"a\"", Check.fixed("F", 3) + "=\"abc\"",
            Check.symbols("E", "a") + "=\"a\"", Check.array("\"null\"") + "=[]", Check.array("\"int\"") + "=[64,1]", Check.map("\"int\"") + "={\"a\":5}",
            "[\"int\"]=64", Check.record("S", "x=\"boolean\"", "y=\"boolean\"") + "={\"x\":true,\"y\":true}"};
        int[] bytes = {1, 1, 1, 1, 2, 3, 1, 1, 5, 5, 3, 2};
        for (int k = 0; k < types.length; k++) {
            Check c = new Check().keep(0, w).keep(1, Check.record("R", "d=" + letters(1998), "s=\"string\"", "e=" + types[k]))
                    .keep(2, Check.record("R", "d=" + letters(1998), "e=" + types[k], "s=\"string\""));
            for (int more = -1; more < 2; more++) {
                int s = 4096 - 2000 - bytes[k] + more;
                Check.due("row", c.load(0, stringOf(s)), "1");
                Check.due(4096 + more + " bytes, with " + types[k] + " behind", c.teller.read(1, 0), more > 0 ? RecordTeller.FULL : 4096 + more);
                Check.due("OUT", c.teller.size(1), more > 0 ? 0 : 4096 + more);
                Check.due("all", c.teller.all(1), more > 0 ? 0 : 1);
                Check.due(4096 + more + " bytes, with a string behind", c.teller.read(2, 0), more > 0 ? RecordTeller.FULL : 4096 + more);
                Check.due("OUT", c.teller.size(1), more > 0 ? 0 : 4096 + more);
                Check.due("all", c.teller.all(2), more > 0 ? 0 : 1);
            }
        }
        // Items that fill it, one by one: a byte each of them is a byte more as a union's.
        for (int n : new int[] {2045, 2046, 2047}) {
            Check c = new Check().keep(0, Check.record("R", "s=\"string\"", "i=" + Check.array("\"boolean\"")))
                    .keep(1, Check.record("R", "i=" + Check.array("[\"boolean\"]"), "s=\"string\""));
            c.load(0, Check.join(stringOf(n - 1952), Check.numbers("160 31"), new byte[2000], new byte[1]));
            int all = n - 1952 + 2 + 4000 + 1;
            Check.due(all + " bytes", c.teller.read(1, 0), all > 4096 ? RecordTeller.FULL : all);
        }
    }

    /** "UNRESOLVED, or FULL ..., whichever comes first as it is told byte by byte, and OUT is empty" */
    private static void fullOrUnresolved() {
        String w = Check.record("R", "s=\"string\"", "i=" + Check.array("\"int\""));
        String[] unresolved = {"q=\"null\"", "i=\"null\"", "i=" + Check.map("\"int\""), "i=[\"null\"]", "i=[" + Check.array("\"string\"") + "]"};
        for (String u : unresolved) {
            Check c = new Check().keep(0, w).keep(1, Check.record("R", "d=" + letters(1998), "s=\"string\"", u))
                    .keep(2, Check.record("R", u, "d=" + letters(1998), "s=\"string\"")).keep(3, Check.record("R", "s=\"string\""));
            for (int s = 2095; s < 2098; s++) {
                c.load(0, Check.join(stringOf(s), Check.numbers("2 5 0")));
                c.teller.read(3, 0);
                Check.due("OUT before", c.teller.size(1), s);
                Check.due(2000 + s + " bytes, then " + u, c.teller.read(1, 0), s > 2096 ? RecordTeller.FULL : RecordTeller.UNRESOLVED);
                Check.due("OUT", c.teller.size(1), 0);
                c.teller.read(3, 0);
                Check.due(u + " first", c.teller.read(2, 0), RecordTeller.UNRESOLVED);
                Check.due("OUT", c.teller.size(1), 0);
                Check.due("all", c.teller.all(1) + c.teller.all(2), 0);
            }
        }
        // A number of items, of a branch comes before what is unresolved behind it.
        String[] behind = {"i=" + Check.array("\"null\""), "i=[" + Check.array("[\"string\"]") + "]"};
        for (int k = 0; k < 2; k++) {
            Check c = new Check().keep(0, w).keep(1, Check.record("R", "d=" + letters(1998), "s=\"string\"", behind[k]));
            for (int s = 2093; s < 2098; s++) {
                c.load(0, Check.join(stringOf(s), Check.numbers("2 5 0")));
                Check.due(2000 + s + " bytes, then " + (k + 1) + " before what is unresolved", c.teller.read(1, 0),
                        2000 + s + 1 + k > 4096 ? RecordTeller.FULL : RecordTeller.UNRESOLVED);
            }
        }
        // A symbol and a default that lack are seen where their bytes would come.
        Check c = new Check().keep(0, Check.record("R", "s=\"string\"", "e=" + Check.symbols("E", "a")))
                .keep(1, Check.record("R", "d=" + letters(1998), "s=\"string\"", "e=" + Check.symbols("E", "b")));
        for (int s = 2095; s < 2098; s++) {
            c.load(0, Check.join(stringOf(s), Check.numbers("0")));
            Check.due(2000 + s + " bytes, then a symbol that lacks", c.teller.read(1, 0), s > 2096 ? RecordTeller.FULL : RecordTeller.UNRESOLVED);
        }
    }

    /** "How many rows, from the first on, can be told so, up to the first that can not (UNRESOLVED or FULL; OUT stays)." */
    private static void rowsUpToTheFirst() {
        Check c = new Check().keep(0, "[\"int\",\"null\",\"string\"]").keep(1, "[\"long\",\"null\"]").keep(2, "\"int\"").keep(3, "\"boolean\"")
                .keep(4, "[\"string\",\"null\",\"int\"]");
        String[] rows = {"0 5 ", "2 ", "4 2 65 "};
        for (int one = 0; one < 3; one++) {
            for (int two = 0; two < 3; two++) {
                for (int three = 0; three < 3; three++) {
                    c.load(0, Check.numbers(rows[one] + rows[two] + rows[three]));
                    c.teller.read(0, 2);
                    int size = c.teller.size(1);
                    int third = three < 2 ? 3 : 2;
                    Check.due("numbers and nulls", c.teller.all(1), one == 2 ? 0 : two == 2 ? 1 : third);
                    Check.due("numbers", c.teller.all(2), one > 0 ? 0 : two > 0 ? 1 : three > 0 ? 2 : 3);
                    Check.due("none of them", c.teller.all(3), 0);
                    Check.due("all of them", c.teller.all(4), 3);
                    Check.due("OUT stays", c.teller.size(1), size);
                }
            }
        }
        Check f = new Check().keep(0, Check.record("R", "s=\"string\"")).keep(1, Check.record("R", "s=\"string\"", "d=" + letters(3698)));
        byte[] fine = stringOf(396);
        byte[] full = stringOf(397);
        f.load(0, Check.join(fine, fine, full, fine));
        f.teller.read(0, 3);
        Check.due("up to the one that is FULL", f.teller.all(1), 2);
        Check.due("OUT stays", f.teller.size(1), 396);
        f.load(0, Check.join(full, fine));
        Check.due("none", f.teller.all(1), 0);
        f.load(0, Check.join(fine, fine));
        Check.due("both", f.teller.all(1), 2);
    }

    /** "w a union: all branches fit r. Else r a union: the first branch that matches w is there, and w fits it." */
    private static void fitsOfUnions() {
        String[] types = {"\"int\"", "\"long\"", "\"string\"", "\"null\"", Check.fixed("F", 1)};
        for (String t : types) {
            Check.fits(true, "[" + t + "]", t);
            Check.fits(true, t, "[" + t + "]");
            Check.fits(true, "[" + t + "]", "[\"boolean\"," + t + "]");
            Check.fits(false, "[" + t + ",\"boolean\"]", t);
            Check.fits(false, "[\"boolean\"," + t + "]", t);
            Check.fits(true, "[\"boolean\"," + t + "]", "[" + t + ",\"boolean\"]");
            Check.fits(false, t, "[\"boolean\"]");
        }
        Check.fits(true, "[\"int\",\"long\"]", "\"long\"");
        Check.fits(false, "[\"int\",\"long\"]", "\"int\"");
        Check.fits(false, "[\"int\",\"long\"]", "[\"int\",\"null\"]");
        // The first that matches, not one that fits.
        Check.fits(false, Check.symbols("E", "a"), "[" + Check.symbols("E", "b") + "]");
        Check.fits(false, Check.array("[\"int\",\"null\"]"), "[" + Check.array("[\"int\"]") + "]");
        Check.fits(true, Check.array("[\"int\"]"), "[" + Check.array("[\"int\"]") + "]");
        Check.fits(true, Check.array("[\"int\"]"), "[" + Check.array("\"long\"") + "]");
        Check.fits(false, Check.array("\"int\""), "[" + Check.array("\"string\"") + "]");
        Check.fits(false, Check.record("R", "a=\"int\""), "[\"null\"," + Check.record("R", "b=\"int\"") + "]");
        // It is asked for wherever it stands, among as many branches as there can be.
        for (int n = 0; n < 16; n++) {
            StringBuilder before = new StringBuilder();
            StringBuilder behind = new StringBuilder();
            for (int k = 0; k < 15; k++) {
                (k < n ? before : behind).append(k < n ? "" : ",").append(Check.fixed("F" + k, k)).append(k < n ? "," : "");
            }
            Check.fits(true, Check.array("\"int\""), "[" + before + Check.array("[\"long\"]") + behind + "]");
            Check.fits(false, Check.array("\"int\""), "[" + before + Check.array("[\"null\"]") + behind + "]");
            Check.fits(false, "[\"int\"," + Check.array("\"int\"") + "]", "[" + before + "\"int\"" + behind + "]");
            Check.fits(true, "[" + before + "\"int\"" + behind + "]", "[" + before + "\"long\"" + behind + "]");
            Check.fits(false, "[" + before + "\"long\"" + behind + "]", "[" + before + "\"int\"" + behind + "]");
        }
    }

    private static void fitsOfOthers() {
        for (int n : new int[] {0, 1, 64}) {
            Check.fits(true, Check.fixed("F", n), Check.fixed("F", n));
            Check.fits(false, Check.fixed("F", n), Check.fixed("F", n == 0 ? 1 : n - 1));
            Check.fits(false, Check.fixed("F", n), Check.fixed("f", n));
        }
        // "ENUM of the same name, and r has a default, or all symbols of w"
        Check.fits(true, Check.symbols("E", "a", "b"), Check.symbols("E", "b", "a"));
        Check.fits(true, Check.symbols("E", "a", "b"), Check.symbols("E", "c", "b", "a"));
        Check.fits(false, Check.symbols("E", "a", "b"), Check.symbols("E", "a"));
        Check.fits(false, Check.symbols("E", "a", "b"), Check.symbols("E", "b"));
        Check.fits(true, Check.symbols("E", "a", "b"), Check.symbols("E", "=c"));
        Check.fits(true, Check.symbols("E", "a", "b"), Check.symbols("E", "c", "=d"));
        Check.fits(false, Check.symbols("E", "=a", "=b"), Check.symbols("E", "a"));
        Check.fits(false, Check.symbols("E", "a"), Check.symbols("D", "=a"));
        // Items' schemas have a say, though without items nothing is unresolved.
        Check.fits(false, Check.array("\"int\""), Check.array("\"string\""));
        Check.fits(false, Check.map("\"int\""), Check.map("\"null\""));
        Check.fits(false, Check.map("\"int\""), Check.array("\"int\""));
        Check.fits(true, Check.map(Check.array("\"bytes\"")), Check.map(Check.array("\"string\"")));
    }

    /**
     * "RECORD of the same name: each of r's fields is one of w's, which fits it (a default does not help there), or, if
     * w has none of that name, has a default."
     */
    private static void fitsOfRecords() {
        String w = Check.record("R", "a=\"int\"", "b=\"string\"");
        Check.fits(true, w, Check.record("R"));
        Check.fits(false, w, Check.record("S"));
        Check.fits(true, w, Check.record("R", "b=\"bytes\"", "a=\"long\""));
        Check.fits(true, w, Check.record("R", "c=\"int\"=1", "b=\"bytes\""));
        Check.fits(false, w, Check.record("R", "b=\"bytes\"", "c=\"int\""));
        Check.fits(false, w, Check.record("R", "b=\"int\"=1"));
        Check.fits(false, w, Check.record("R", "a=\"null\"=null", "b=\"string\""));
        Check.fits(true, w, Check.record("R", "c=\"null\"=null"));
        Check.fits(false, w, Check.record("R", "c=\"null\""));
        Check.fits(true, Check.record("R"), Check.record("R"));
        Check.fits(false, Check.record("R"), Check.record("R", "a=\"null\""));
        // The writer's defaults have no say.
        Check.fits(false, Check.record("R", "c=\"int\"=1"), Check.record("R", "d=\"int\""));
        Check.fits(true, Check.record("R", "a=\"null\"", "b=" + Check.record("S")), Check.record("R", "b=" + Check.record("S", "x=\"int\"=0")));
        Check.fits(false, Check.record("R", "a=\"null\"", "b=" + Check.record("S")), Check.record("R", "b=" + Check.record("S", "x=\"int\"")));
    }

    /** "(Two that are being asked for already count as fitting.)" */
    private static void askedForAlready() {
        Check.fits(true, Check.record("R", "n=\"R\""), Check.record("R", "n=\"R\""));
        Check.fits(true, Check.record("R", "n=\"R\""), Check.record("R", "n=[\"R\"]", "m=\"null\"=null"));
        Check.fits(false, Check.record("R", "n=\"R\""), Check.record("R", "n=[\"R\"]", "m=\"null\""));
        Check.fits(false, Check.record("R", "n=\"R\"", "m=\"int\""), Check.record("R", "n=\"R\"", "m=\"string\""));
        Check.fits(false, Check.record("R", "n=[\"R\",\"null\"]"), Check.record("R", "n=[\"R\"]"));
        Check.fits(true, Check.record("R", "n=[\"R\",\"null\"]"), Check.record("R", "n=[\"null\",\"R\",\"int\"]"));
        String two = Check.record("A", "b=" + Check.record("B", "a=[\"null\",\"A\"]", "c=" + Check.map("\"B\"")));
        Check.fits(true, two, two);
        Check.fits(true, two, Check.record("A", "b=" + Check.record("B", "c=" + Check.map("[\"B\"]"), "a=[\"A\",\"null\"]")));
        Check.fits(false, two, Check.record("A", "b=" + Check.record("B", "c=" + Check.map("[\"A\"]"), "a=[\"A\",\"null\"]")));
        Check.fits(false, two, Check.record("A", "b=" + Check.record("B", "c=" + Check.map("\"B\""), "a=\"A\"")));
        // One that is asked for by two ways, and fits by neither.
        Check.fits(false, Check.record("R", "a=" + Check.record("S", "x=\"int\""), "b=\"S\""),
                Check.record("R", "a=" + Check.record("S", "x=\"null\""), "b=\"S\""));
    }

    /** What fits is told, of every pair of some schemas and of some rows of each. */
    private static void fitsIsAsToldSo() {
        String[] types = {"\"int\"", "\"long\"", "[\"int\",\"string\"]", "[\"string\",\"long\"]", Check.array("\"int\""), Check.array("[\"long\",\"bytes\"]"),
            Check.record("R", "a=\"int\""), Check.record("R", "b=\"int\"=1", "a=\"long\""), Check.symbols("E", "a", "b"), Check.symbols("E", "=b")};
        String[] rows = {"5", "5", "0 5 2 2 65", "0 2 65 2 5", "2 5 0", "2 0 5 0 2 2 2 65 0", "5", "1 5", "0 2", "0"};
        int fitting = 0;
        for (int w = 0; w < types.length; w++) {
            for (int r = 0; r < types.length; r++) {
                Check c = new Check().keep(0, types[w]).keep(1, types[r]);
                c.load(0, Check.numbers(rows[w]));
                boolean fits = c.teller.fits(0, 1);
                fitting += fits ? 1 : 0;
                Check.due(types[w] + " told as " + types[r], c.teller.all(1) == c.teller.rows(), fits);
            }
        }
        Check.due("how many fit", fitting, 19);
    }
}
