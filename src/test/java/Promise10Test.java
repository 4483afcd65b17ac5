/** read: a row told again as another schema. */
public final class Promise10Test {
    public static void main(String[] args) {
        sixWords();
        unions();
        listsAndMaps();
        named();
        records();
        deep();
        wide();
        defaults();
        orders();
        full();
        wrongInputs();
        Check.done();
    }

    private static void sixWords() {
        String[] types = {"boolean", "int", "long", "bytes", "string"};
        String[] rows = {"1", "2", "4", "2 7", "2 8"};
        for (int w = 0; w < types.length; w++) {
            for (int r = 0; r < types.length; r++) {
                boolean fine = w == r || w == 1 && r == 2 || w == 3 && r == 4 || w == 4 && r == 3;
                Check.told("\"" + types[w] + "\"", rows[w], "\"" + types[r] + "\"", fine ? rows[w] : "-20");
            }
            Check.told("\"" + types[w] + "\"", rows[w], "\"null\"", "-20");
            Check.told("[\"null\"]", "0", "\"" + types[w] + "\"", "-20");
            Check.told("\"" + types[w] + "\"", rows[w], Check.array("\"" + types[w] + "\""), "-20");
            Check.told("\"" + types[w] + "\"", rows[w], Check.record("R"), "-20");
        }
        Check.told("[\"null\"]", "0", "\"null\"", "");
        Check.told("\"long\"", "133 128 0", "\"long\"", "5");
        Check.told("\"int\"", "255 255 255 255 15", "\"long\"", "255 255 255 255 15");
        Check.told("\"int\"", "1", Check.fixed("F", 1), "-20");
        Check.told("\"bytes\"", "2 1", Check.fixed("F", 1), "-20");
    }

    private static void unions() {
        Check.told("[\"null\",\"int\"]", "2 9", "\"int\"", "9");
        Check.told("[\"null\",\"int\"]", "2 9", "\"null\"", "-20");
        Check.told("[\"null\",\"int\"]", "0", "[\"int\",\"null\"]", "2");
        Check.told("[\"null\",\"int\"]", "2 9", "[\"int\",\"null\"]", "0 9");
        Check.told("\"int\"", "9", "[\"string\",\"long\",\"int\"]", "2 9");
        Check.told("\"int\"", "9", "[\"int\",\"long\"]", "0 9");
        Check.told("\"long\"", "9", "[\"int\",\"long\"]", "2 9");
        Check.told("\"long\"", "9", "[\"int\",\"string\"]", "-20");
        Check.told("\"bytes\"", "2 9", "[\"string\",\"bytes\"]", "0 2 9");
        Check.told("\"string\"", "2 9", "[\"null\",\"bytes\",\"string\"]", "2 2 9");
        Check.told("[\"int\",\"string\"]", "0 9", "[\"string\"]", "-20");
        // What matches is not all that it may be told as.
        Check.told(Check.array("\"int\""), "2 9 0", "[" + Check.array("\"string\"") + "]", "-20");
        Check.told(Check.array("\"int\""), "0", "[" + Check.array("\"string\"") + "]", "-20");
        Check.told(Check.array("\"int\""), "0", Check.array("\"string\""), "0");
        Check.told(Check.array("[\"int\",\"null\"]"), "2 0 9 0", "[\"null\"," + Check.array("\"long\"") + "]", "2 2 9 0");
        Check.told(Check.array("[\"int\",\"null\"]"), "2 2 0", "[\"null\"," + Check.array("\"long\"") + "]", "-20");
        Check.told(Check.map("\"int\""), "2 2 97 9 0", "[" + Check.array("\"int\"") + "," + Check.map("[\"string\"]") + "]", "-20");
        Check.told(Check.map("\"int\""), "2 2 97 9 0", "[" + Check.array("\"int\"") + "," + Check.map("[\"string\",\"int\"]") + "]", "2 2 2 97 2 9 0");
        Check.told(Check.array(Check.map("\"int\"")), "2 0 0", "[" + Check.array(Check.map("\"string\"")) + "]", "-20");
        Check.told(Check.array(Check.map("\"int\"")), "2 0 0", "[" + Check.array(Check.array("\"int\"")) + "]", "-20");
        Check.told(Check.array(Check.map("\"int\"")), "2 0 0", "[" + Check.array(Check.map("\"long\"")) + "]", "0 2 0 0");
        // A record matches by its name alone.
        Check.told(Check.record("R", "a=\"int\""), "9", "[" + Check.record("S", "a=\"int\"") + "," + Check.record("R", "b=\"int\"") + "]", "-20");
        Check.told(Check.record("R", "a=\"int\""), "9", "[" + Check.record("S", "a=\"int\"") + "," + Check.record("R", "a=\"long\"") + "]", "2 9");
        Check.told(Check.symbols("E", "a"), "0", "[\"int\"," + Check.symbols("E", "b", "a") + "]", "2 2");
        Check.told(Check.symbols("E", "a"), "0", "[\"int\"," + Check.symbols("E", "b") + "]", "-20");
        Check.told(Check.fixed("F", 1), "7", "[" + Check.fixed("G", 1) + "," + Check.fixed("F", 1) + "]", "2 7");
        Check.told(Check.fixed("F", 1), "7", "[" + Check.fixed("G", 1) + "," + Check.fixed("F", 2) + "]", "-20");
        Check.told("[[\"x\"]]".replace("[\"x\"]", Check.array("[\"null\",\"int\"]")), "0 4 0 2 9 0", Check.array("[\"int\",\"null\"]"), "4 2 0 9 0");
    }

    private static void listsAndMaps() {
        Check.told(Check.array("\"int\""), "2 1 1 2 2 0", Check.array("\"long\""), "4 1 2 0");
        Check.told(Check.array("\"int\""), "2 1 0", Check.array("\"null\""), "-20");
        Check.told(Check.array("\"int\""), "0", Check.map("\"int\""), "-20");
        Check.told(Check.map("\"int\""), "0", Check.array("\"int\""), "-20");
        Check.told(Check.map("\"int\""), "0", Check.map(Check.record("R")), "0");
        Check.told(Check.map("\"string\""), "4 2 97 0 0 2 98 0", Check.map("\"bytes\""), "4 2 97 0 0 2 98 0");
        Check.told(Check.map("\"int\""), "2 2 97 1 0", Check.map("\"null\""), "-20");
        Check.told(Check.array(Check.array("\"int\"")), "4 2 1 2 2 0 0 0", Check.array(Check.array("[\"int\"]")), "4 4 0 1 0 2 0 0 0");
        Check.told(Check.array("\"null\""), "6 0", Check.array("[\"int\",\"null\"]"), "6 2 2 2 0");
        Check.told(Check.array("[\"null\",\"int\"]"), "4 0 2 9 0", Check.array("\"null\""), "-20");
    }

    private static void named() {
        Check.told(Check.fixed("F", 2), "7 8", Check.fixed("F", 2), "7 8");
        Check.told(Check.fixed("F", 2), "7 8", Check.fixed("F", 3), "-20");
        Check.told(Check.fixed("F", 2), "7 8", Check.fixed("G", 2), "-20");
        Check.told(Check.fixed("F", 2), "7 8", "\"bytes\"", "-20");
        Check.told(Check.symbols("E", "a", "b", "c"), "4", Check.symbols("E", "c", "b"), "0");
        Check.told(Check.symbols("E", "a", "b", "c"), "2", Check.symbols("E", "c", "b"), "2");
        Check.told(Check.symbols("E", "a", "b", "c"), "0", Check.symbols("E", "c", "b"), "-20");
        Check.told(Check.symbols("E", "a", "b", "c"), "0", Check.symbols("E", "c", "=b"), "2");
        Check.told(Check.symbols("E", "=a", "b", "c"), "4", Check.symbols("E", "a", "b"), "-20");
        Check.told(Check.symbols("E", "a"), "0", Check.symbols("D", "a"), "-20");
        Check.told(Check.symbols("E", "ab"), "0", Check.symbols("E", "a", "b", "abc"), "-20");
        Check.told(Check.symbols("E", "a"), "0", Check.fixed("E", 1), "-20");
        Check.told(Check.symbols("E", "a"), "0", Check.record("E"), "-20");
        Check.told(Check.record("E", "a=\"int\""), "2", Check.symbols("E", "a"), "-20");
    }

    private static void records() {
        String w = Check.record("R", "a=\"int\"", "b=\"string\"", "c=" + Check.array("\"int\""), "d=[\"null\",\"R\"]");
        String row = "6 4 104 105 4 1 2 0 2 7 0 0 0";
        Check.told(w, row, w, row);
        Check.told(w, row, Check.record("R"), "");
        Check.told(w, row, Check.record("S", "a=\"int\""), "-20");
        Check.told(w, row, Check.record("R", "c=" + Check.array("\"long\""), "a=\"long\""), "4 1 2 0 6");
        Check.told(w, row, Check.record("R", "d=[\"R\",\"null\"]", "b=\"bytes\""), "0 2 0 4 104 105");
        Check.told(w, row, Check.record("R", "b=\"int\""), "-20");
        Check.told(w, row, Check.record("R", "e=\"int\""), "-20");
        Check.told(w, row, Check.record("R", "e=\"int\"=-1", "a=\"int\""), "1 6");
        Check.told(w, row, Check.record("R", "a=\"int\"", "d=\"null\""), "-20");
        Check.told(w, row, Check.record("R", "a=\"string\"=\"x\""), "-20");
        Check.told(w, row, Check.record("R", "d=\"R\""), "-20");
        // Records in records, each one in another order.
        String in = Check.record("I", "x=\"int\"", "y=\"string\"", "z=\"boolean\"");
        String out = Check.record("O", "p=" + in, "q=\"int\"", "r=\"I\"");
        String back = Check.record("O", "r=" + Check.record("I", "z=\"boolean\"", "y=\"bytes\"", "n=\"int\"=3", "x=\"long\""), "q=\"long\"", "p=\"I\"");
        Check.told(out, "2 2 97 1 8 4 4 98 99 0", back, "0 4 98 99 6 4 8 1 2 97 6 2");
        // Behind a record whose fields were told in another order the next item begins where it should.
        Check.told(Check.array(in), "4 2 2 97 1 4 4 98 99 0 0", Check.array(Check.record("I", "z=\"boolean\"", "x=\"int\"")), "4 1 2 0 4 0");
        Check.told(Check.array(in), "4 2 2 97 1 4 4 98 99 0 0", Check.array(Check.record("I", "x=\"int\"")), "4 2 4 0");
        Check.told(Check.array(in), "4 2 2 97 1 4 4 98 99 0 0", Check.array(Check.record("I", "n=\"null\"=null")), "4 0");
        Check.told(Check.map("[\"null\"," + in + "]"), "4 2 107 2 2 2 97 1 2 108 0 0",
                Check.map("[" + Check.record("I", "y=\"string\"") + ",\"null\"]"), "4 2 107 0 2 97 2 108 2 0");
        // A field that is skipped to when one before it was told last.
        String five = Check.record("Q", "a=\"int\"", "b=\"string\"", "c=\"int\"", "d=\"string\"", "e=\"int\"");
        Check.told(five, "2 2 97 4 4 98 99 6", Check.record("Q", "c=\"int\"", "a=\"int\"", "e=\"int\""), "4 2 6");
        Check.told(five, "2 2 97 4 4 98 99 6", Check.record("Q", "e=\"int\"", "b=\"string\"", "d=\"string\"", "a=\"int\""), "6 2 97 4 98 99 2");
        // All that can be skipped.
        String all = Check.record("A", "a=\"null\"", "b=\"boolean\"", "c=\"int\"", "d=\"long\"", "e=\"bytes\"", "f=\"string\"",
                "g=" + Check.fixed("F", 2), "h=" + Check.symbols("E", "x", "y"), "i=[\"int\",\"string\"]",
                "j=" + Check.map("\"int\""), "k=" + Check.array("\"string\""), "l=" + Check.record("B", "m=\"int\"", "n=\"null\""), "z=\"int\"");
        Check.told(all, "1 200 1 133 1 4 1 2 2 3 9 9 2 2 2 65 4 2 97 1 0 2 0 2 0 0 12 14", Check.record("A", "z=\"int\""), "14");
        String two = Check.record("A", "a=\"long\"", "b=\"int\"");
        for (String skipped : new String[] {"0", "127", "126", "128 1", "255 127", "255 255 255 255 255 255 255 255 255 1",
            "254 255 255 255 255 255 255 255 255 1", "255 255 255 255 255 255 255 255 127"}) {
            Check.told(two, skipped + " 5", Check.record("A", "b=\"int\""), "5");
            Check.told(two, skipped + " 5", Check.record("A", "b=\"int\"", "a=\"long\""), "5 " + skipped);
        }
    }

    /** As many fields and items as can be. */
    private static void wide() {
        String in = Check.record("I", "x=\"int\"", "y=\"string\"");
        String[] fields = new String[32];
        fields[0] = "f0=" + in;
        for (int k = 1; k < 32; k++) {
            fields[k] = "f" + k + "=\"int\"";
        }
        String item = "2 2 97" + " 4".repeat(30) + " 6 ";
        String r = Check.record("W", "f31=\"int\"", "f0=" + Check.record("I", "y=\"string\"", "x=\"int\""), "f1=\"int\"");
        Check.told(Check.array(Check.record("W", fields)), "4 " + item + item + "0", Check.array(r), "4 6 2 97 2 4 6 2 97 2 4 0");
        String w = Check.record("R", "a=" + Check.array("\"boolean\""), "b=" + Check.map("\"null\""), "z=\"int\"");
        Check c = new Check().keep(0, w).keep(1, Check.record("R", "z=\"int\"", "a=" + Check.array("[\"boolean\"]")))
                .keep(2, Check.record("R", "z=\"long\""));
        c.load(0, Check.join(Check.bytes(160, 31), new byte[2001], Check.bytes(0, 12)));
        Check.due("z alone", c.read(2, 0), "12");
        Check.due("z and 2000 items of two bytes", c.teller.read(1, 0), 1 + 2 + 4000 + 1);
        Check.due("first", c.teller.letter(0, 1), 12);
        Check.due("as it is", c.teller.read(0, 0), 2005);
        c.load(0, Check.join(Check.bytes(0, 160, 31), new byte[2001], Check.bytes(14)));
        Check.due("z behind a map of 2000", c.read(2, 0), "14");
        Check.due("as it is", c.teller.read(0, 0), 2005);
    }

    /** Rows as deep as can be, told and skipped. */
    private static void deep() {
        String[] types = {"[\"null\",\"R\"]", Check.array("\"R\""), Check.map("\"R\"")};
        String[] parts = {"2 ", "2 ", "2 2 107 "};
        for (int k = 0; k < 3; k++) {
            String ends = k == 0 ? "" : "0 ".repeat(14);
            String r = Check.record("R", "n=" + types[k]);
            String row = (parts[k].repeat(14) + "0 " + ends).trim();
            Check.told(r, row, r, row);
            String after = Check.record("R", "n=" + types[k], "z=\"boolean\"");
            String longer = parts[k].repeat(14) + "0 " + (k == 0 ? "1 ".repeat(14) : "1 0 ".repeat(14)) + "0";
            Check.told(after, longer, after, longer);
            Check.told(after, longer, Check.record("R", "z=\"boolean\""), "0");
            Check.told(after, longer, Check.record("R", "z=\"boolean\"", "y=\"int\"=7", "n=" + types[k]),
                    "0 14 " + (k == 0 ? "2 1 14 ".repeat(14) + "0" : (parts[k] + "1 14 ").repeat(14) + "0" + " 0".repeat(14)));
        }
        // Fifteen lists in one another: the innermost row's list lies in 31 others.
        String tree = Check.record("R", "n=" + types[1]);
        Check.told(tree, "2 ".repeat(15) + "0" + " 0".repeat(15), tree, "2 ".repeat(15) + "0" + " 0".repeat(15));
        String maps = Check.record("R", "n=" + types[2]);
        Check.told(maps, "2 0 ".repeat(15) + "0" + " 0".repeat(15), maps, "2 0 ".repeat(15) + "0" + " 0".repeat(15));
    }

    private static void defaults() {
        String w = Check.record("R", "o=\"boolean\"");
        String[] types = {"\"null\"=null", "\"boolean\"=true", "\"boolean\"=false", "\"int\"=-2147483648", "\"long\"=9223372036854775807",
            "\"int\"=-0", "\"int\"=63", "\"int\"=64", "\"int\"=-64", "\"int\"=-65", "\"bytes\"=\"\\u00ff\\u0000\"", "\"string\"=\"\"",
            "\"string\"=\"\\u00Aa\\u00fF\\u0009\\u00A0\"", Check.fixed("F", 3) + "=\"a\\u00e9\\n\"",
            Check.symbols("E", "a", "b", "c") + "=\"c\"", Check.array("\"int\"") + "=[]", Check.array("\"int\"") + "=[1,-1]",
            Check.map("\"int\"") + "={}", Check.map("\"int\"") + "={\"b\":1,\"a\":2}", "[\"int\",\"null\"]=5", "[\"null\",\"int\"]=null",
            Check.array("[\"string\",\"null\"]") + "=[\"a\",\"\"]", Check.record("S", "x=\"int\"", "y=[\"string\"]") + "={\"z\":0,\"y\":\"k\",\"x\":1}",
            Check.map("[" + Check.map("\"null\"") + "]") + "={\"q\":{\"\\u0071\":null}}"};
        String[] due = {"", "1", "0", "255 255 255 255 15", "254 255 255 255 255 255 255 255 255 1",
            "0", "126", "128 1", "127", "129 1", "4 255 0", "0",
            "8 170 255 9 160", "97 233 10",
            "4", "0", "4 2 1 0", "0", "4 2 98 2 2 97 4 0", "0 10", "0",
            "4 0 2 97 0 0 0", "2 0 2 107", "2 2 113 0 2 2 113 0 0"};
        for (int k = 0; k < types.length; k++) {
            Check.told(w, "1", Check.record("R", "n=" + types[k], "o=\"boolean\""), (due[k] + " 1").trim());
            Check.told(w, "1", Check.record("R", "n=" + types[k].replaceFirst("=.*", "")), "-20");
        }
        // More than 63 items, letters: two bytes tell how many.
        Check.told(w, "1", Check.record("R", "n=" + Check.array("\"null\"") + "=[" + "null,".repeat(63) + "null]"), "128 1 0");
        Check.told(w, "1", Check.record("R", "n=\"string\"=\"" + "a".repeat(64) + "\""), "128 1" + " 97".repeat(64));
    }

    private static void orders() {
        String w = Check.record("R", "a=" + Check.array("\"int\""));
        // UNRESOLVED comes at its turn: what is told before has no say unless it is FULL.
        Check.told(w, "2 1 0", Check.record("R", "a=" + Check.array("\"int\""), "b=\"int\""), "-20");
        String big = "\"string\"=\"" + "x".repeat(1500) + "\"";
        String three = Check.record("R", "x=" + big, "y=" + big);
        Check c = new Check().keep(0, w).keep(1, three);
        c.load(0, 2, 1, 0);
        Check.due("two long defaults", c.teller.read(1, 0), 3004);
        int[] at = {0, 1, 2, 1501, 1502, 1503, 1504, 3003};
        int[] due = {184, 23, 120, 120, 184, 23, 120, 120};
        for (int k = 0; k < at.length; k++) {
            Check.due("letter " + at[k], c.teller.letter(at[k], 1), due[k]);
        }
    }

    private static void full() {
        // Each item has 2 letters in the writer's row; the reader puts a default of 100 bytes behind each.
        String w = Check.array(Check.record("R", "a=\"int\""));
        String r = Check.array(Check.record("R", "a=\"int\"", "b=\"string\"=\"" + "y".repeat(98) + "\"", "c=\"boolean\"=true"));
        Check c = new Check().keep(0, w).keep(1, r).keep(2, r.replace("\"c\",", "\"d\",").replace(",\"default\":true", ""))
                .keep(3, r.replace("98", "97"));
        // 102 bytes an item: 40 items and 3 bytes make 4083.
        byte[] forty = new byte[42];
        forty[0] = 80;
        c.load(0, forty);
        Check.due("40 items", c.teller.read(1, 0), 40 * 102 + 2);
        Check.due("a field lacks in the first", c.teller.read(2, 0), RecordTeller.UNRESOLVED);
        byte[] more = new byte[43];
        more[0] = 82;
        c.load(0, more);
        c.teller.read(0, 0);
        Check.due("41 items", c.teller.read(1, 0), RecordTeller.FULL);
        Check.due("OUT", c.teller.size(1), 0);
        Check.due("all", c.teller.all(1), 0);
        exactly();
        whicheverIsFirst();
    }

    private static String letters(int n) {
        return "\"string\"=\"" + "y".repeat(n) + "\"";
    }

    private static void exactly() {
        // A string of n letters, n > 63, has n + 2 bytes.
        Check c = new Check();
        c.keep(0, Check.record("R", "s=\"string\""));
        c.keep(1, Check.record("R", "s=\"string\"", "d=" + letters(1998)));
        c.keep(2, Check.record("R", "s=\"string\"", "d=" + letters(1998), "e=\"null\"=null", "f=" + Check.record("S") + "={}"));
        c.keep(3, Check.record("R", "s=\"string\"", "d=" + letters(1998), "e=\"boolean\"=false"));
        c.keep(4, Check.record("R", "s=\"string\"", "d=" + letters(1998), "e=\"null\""));
        c.keep(5, Check.record("R", "d=" + letters(1998), "s=\"string\"", "e=\"null\""));
        c.load(0, Check.join(Check.bytes(224, 32), new byte[2096]));
        Check.due("s", c.teller.size(0), 2098);
        Check.due("2098 and 2000", c.teller.read(1, 0), RecordTeller.FULL);
        c.load(0, Check.join(Check.bytes(220, 32), new byte[2094]));
        Check.due("2096 and 2000", c.teller.read(1, 0), 4096);
        Check.due("last letter", c.teller.letter(4095, 1), 121);
        Check.due("no byte more", c.teller.read(2, 0), 4096);
        Check.due("a byte more", c.teller.read(3, 0), RecordTeller.FULL);
        Check.due("unresolved just behind", c.teller.read(4, 0), RecordTeller.UNRESOLVED);
        c.load(0, Check.join(Check.bytes(222, 32), new byte[2095]));
        Check.due("2097 and 2000", c.teller.read(1, 0), RecordTeller.FULL);
        Check.due("full before unresolved", c.teller.read(4, 0), RecordTeller.FULL);
        Check.due("the writer's field is full", c.teller.read(5, 0), RecordTeller.FULL);
    }

    private static void whicheverIsFirst() {
        Check c = new Check();
        c.keep(0, Check.array("[\"string\",\"int\"]"));
        c.keep(1, Check.array("[\"string\"]"));
        c.keep(2, Check.array(Check.record("R")));
        c.keep(3, "\"string\"");
        c.keep(4, Check.record("Q"));
        c.load(0, Check.join(Check.bytes(4, 0, 232, 7), new byte[500], Check.bytes(2, 9, 0)));
        Check.due("unresolved behind some bytes", c.read(1, 0), "-20");
        c.keep(5, Check.record("T", "a=\"null\"", "i=" + Check.array("\"null\"")));
        c.keep(6, Check.record("T", "i=" + Check.array("[\"int\",\"long\",\"string\",\"null\"]"), "d=" + letters(2096)));
        c.keep(7, Check.record("T", "d=" + letters(2093), "i=" + Check.array("[\"int\",\"long\",\"string\",\"null\"]"), "e=\"int\""));
        c.load(5, 160, 31, 0);
        Check.due("2003 and 2098 bytes", c.teller.read(6, 0), RecordTeller.FULL);
        Check.due("2095 and 2003 bytes before a field that lacks", c.teller.read(7, 0), RecordTeller.FULL);
        c.load(5, 154, 31, 0);
        Check.due("2000 and 2098 bytes", c.teller.read(6, 0), RecordTeller.FULL);
        Check.due("2095 and 2000 bytes before a field that lacks", c.teller.read(7, 0), RecordTeller.UNRESOLVED);
        c.load(5, 150, 31, 0);
        Check.due("1998 and 2098 bytes", c.teller.read(6, 0), 4096);
    }

    private static void wrongInputs() {
        Check c = new Check().keep(0, "\"int\"").keep(1, "\"string\"");
        c.load(0, 1, 2, 3);
        c.teller.read(0, 2);
        for (int p : new int[] {-1, 8, Integer.MIN_VALUE, Integer.MAX_VALUE}) {
            Check.due("place " + p, Check.answer(() -> c.teller.read(p, 0)), "throws.IndexOutOfBoundsException");
            Check.due("place " + p, Check.answer(() -> c.teller.read(p, 3)), "throws.IndexOutOfBoundsException");
        }
        for (int i : new int[] {-1, 3, Integer.MIN_VALUE, Integer.MAX_VALUE}) {
            Check.due("row " + i, Check.answer(() -> c.teller.read(0, i)), "throws.IndexOutOfBoundsException");
            Check.due("row " + i + " and no schema", Check.answer(() -> c.teller.read(2, i)), "throws.IndexOutOfBoundsException");
        }
        Check.due("no schema", Check.answer(() -> c.teller.read(2, 0)), "throws.IllegalStateException");
        Check.due("OUT stays", c.letters(1), "3");
        Check.due("rows", c.read(0, 0) + " " + c.read(0, 1) + " " + c.read(0, 2), "1 2 3");
        Check.due("unresolved", c.read(1, 0), "-20");
    }
}
