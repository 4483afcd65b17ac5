/** load: bytes as rows, their first fault 1 to 8 and where it is, and how they are made normal. */
public final class Promise05Test {
    private static final String LONGEST = "128 128 128 128 128 128 128 128 128";

    public static void main(String[] args) {
        simple();
        varints();
        strings();
        choices();
        blocks();
        measuredBlocks();
        items();
        depth();
        counts();
        empty();
        effects();
        Check.done();
    }

    private static void simple() {
        Check.rows("\"boolean\"", "0 1 1", "3: 0 1 1");
        Check.rows("\"boolean\"", "0 1 2 3", "-3@2");
        Check.rows("\"boolean\"", "255", "-3@0");
        Check.rows(Check.fixed("F", 3), "1 2 3 4 5 255", "2: 1 2 3 4 5 255");
        Check.rows(Check.fixed("F", 3), "1 2 3 4 5", "-1@5");
        Check.rows(Check.fixed("F", 64), "1", "-1@1");
        Check.rows(Check.record("R", "a=\"null\"", "b=\"boolean\"", "c=" + Check.fixed("F", 0), "d=\"int\""), "1 4 0 3", "2: 1 4 0 3");
        Check.rows(Check.record("R", "a=\"boolean\"", "b=\"boolean\""), "1 0 1", "-1@3");
        Check.rows(Check.record("R", "a=\"boolean\"", "b=\"boolean\""), "1 0 1 2", "-3@3");
    }

    private static void varints() {
        for (String t : new String[] {"\"int\"", "\"long\""}) {
            Check.rows(t, "0 1 2 3 126 127", "6: 0 1 2 3 126 127");
            Check.rows(t, "128 1 129 1", "2: 128 1 129 1");
            Check.rows(t, "254 255 255 255 15 255 255 255 255 15", "2: 254 255 255 255 15 255 255 255 255 15");
            Check.rows(t, "128 0", "1: 0");
            Check.rows(t, "129 128 128 0", "1: 1");
            Check.rows(t, LONGEST + " 0", "1: 0");
            Check.rows(t, "130 128 128 128 128 128 128 128 128 0 1", "2: 2 1");
            Check.rows(t, "128", "-1@1");
            Check.rows(t, "1 " + LONGEST, "-1@10");
            Check.rows(t, LONGEST + " 2", "-2@0");
            Check.rows(t, "5 " + LONGEST + " 128", "-2@1");
            Check.rows(t, LONGEST + " 129 0", "-2@0");
            Check.rows(t, LONGEST + " 255", "-2@0");
        }
        Check.rows("\"int\"", "128 128 128 128 16", "-2@0");
        Check.rows("\"int\"", "0 129 128 128 128 16", "-2@1");
        Check.rows("\"int\"", LONGEST + " 1", "-2@0");
        Check.rows("\"int\"", "255 255 255 255 255 255 255 255 255 1", "-2@0");
        Check.rows("\"int\"", "128 128 128 128 128 16", "-2@0");
        Check.rows("\"int\"", "128 128 128 128 144", "-1@5");
        Check.rows("\"long\"", "128 128 128 128 16", "1: 128 128 128 128 16");
        Check.rows("\"long\"", LONGEST + " 1", "1: " + LONGEST + " 1");
        Check.rows("\"long\"", "255 255 255 255 255 255 255 255 255 1", "1: 255 255 255 255 255 255 255 255 255 1");
        Check.rows("\"long\"", "254 255 255 255 255 255 255 255 255 1", "1: 254 255 255 255 255 255 255 255 255 1");
        Check.rows("\"long\"", "255 255 255 255 255 255 255 255 127", "1: 255 255 255 255 255 255 255 255 127");
        Check.rows("\"long\"", "255 255 255 255 255 255 255 255 255 0", "1: 255 255 255 255 255 255 255 255 127");
    }

    private static void strings() {
        for (String t : new String[] {"\"bytes\"", "\"string\""}) {
            Check.rows(t, "0 2 255 6 1 2 3", "3: 0 2 255 6 1 2 3");
            Check.rows(t, "132 0 7 8", "1: 4 7 8");
            Check.rows(t, "4 1", "-1@2");
            Check.rows(t, "2", "-1@1");
            Check.rows(t, "1", "-6@0");
            Check.rows(t, "0 3 9 9", "-6@1");
            Check.rows(t, "255 255 255 255 255 255 255 255 255 1", "-6@0");
            Check.rows(t, "254 255 255 255 255 255 255 255 255 1 0", "-1@11");
            Check.rows(t, "128 128 128 128 16 0 0", "-1@7");
            Check.rows(t, "128 128 128 128 128 64 0 0", "-1@8");
            Check.rows(t, LONGEST + " 2", "-2@0");
        }
    }

    private static void choices() {
        String u = "[\"null\",\"boolean\",\"int\"]";
        Check.rows(u, "0 2 1 4 130 0", "3: 0 2 1 4 2");
        Check.rows(u, "130 128 0 1", "1: 2 1");
        Check.rows(u, "0 6", "-4@1");
        Check.rows(u, "1", "-4@0");
        Check.rows(u, "4 2 " + LONGEST + " 1", "-4@2");
        Check.rows(u, "128 128 128 128 32", "-4@0");
        Check.rows(u, "2", "-1@1");
        Check.rows(u, "2 2", "-3@1");
        Check.rows("[\"int\"]", "0 8 2", "-4@2");
        String e = Check.symbols("E", "a", "b", "=c");
        Check.rows(e, "0 2 4 132 0", "4: 0 2 4 4");
        Check.rows(e, "0 6", "-5@1");
        Check.rows(e, "3", "-5@0");
        Check.rows(e, "128 128 128 128 32", "-5@0");
        Check.rows(e, "0 128", "-1@2");
        Check.rows(e, LONGEST + " 2", "-2@0");
    }

    private static void blocks() {
        String a = Check.array("\"boolean\"");
        Check.rows(a, "0 0", "2: 0 0");
        Check.rows(a, "2 1 0", "1: 2 1 0");
        Check.rows(a, "2 1 4 0 1 2 1 0 0", "2: 8 1 0 1 1 0 0");
        Check.rows(a, "130 0 1 128 0", "1: 2 1 0");
        Check.rows(a, "2", "-1@1");
        Check.rows(a, "2 1", "-1@2");
        Check.rows(a, "4 1 2", "-3@2");
        Check.rows(a, LONGEST + " 2", "-2@0");
        Check.rows(a, "2 0 " + LONGEST + " 2", "-2@2");
        String n = Check.array("\"null\"");
        Check.rows(n, "128 1 126 0", "1: 254 1 0");
        Check.rows(n, "8 0 0 6 6 0", "3: 8 0 0 12 0");
        String m = Check.map("\"int\"");
        Check.rows(m, "0", "1: 0");
        Check.rows(m, "2 2 97 8 0", "1: 2 2 97 8 0");
        Check.rows(m, "2 2 97 8 4 130 0 97 9 0 10 0", "1: 6 2 97 8 2 97 9 0 10 0");
        Check.rows(m, "2 1 0", "-6@1");
        Check.rows(m, "2 4 97", "-1@3");
        Check.rows(m, "2 2 97", "-1@3");
        Check.rows(m, "2 " + LONGEST + " 2", "-2@1");
        String aa = Check.array(Check.array("\"int\""));
        Check.rows(aa, "2 2 5 2 6 0 2 0 0", "1: 4 4 5 6 0 0 0");
        Check.rows(aa, "1 16 2 5 1 2 6 0 0 0", "-6@1");
    }

    private static void measuredBlocks() {
        String a = Check.array("\"boolean\"");
        Check.rows(a, "3 4 0 1 0", "1: 4 0 1 0");
        Check.rows(a, "3 4 0 1 2 1 1 2 0 0", "1: 8 0 1 1 0 0");
        Check.rows(a, "3 132 128 0 0 1 0", "1: 4 0 1 0");
        Check.rows(a, "3 2 0 1 0", "-6@1");
        Check.rows(a, "3 6 0 1 0", "-6@1");
        Check.rows(a, "3 3 0 1 0", "-6@1");
        Check.rows(a, "3 " + LONGEST + " 1 0 1 0", "-6@1");
        Check.rows(a, "3 255 255 255 255 255 255 255 255 255 1 0 1 0", "-6@1");
        Check.rows(a, "1 128 128 128 128 32 1 0", "-6@1");
        Check.rows(a, "3 6 0 1", "-6@1");
        Check.rows(a, "3 6 0", "-1@3");
        Check.rows(a, "3 6 0 2", "-3@3");
        Check.rows(a, "3", "-1@1");
        Check.rows(a, "3 128", "-1@2");
        Check.rows(a, "3 " + LONGEST + " 2 0 1 0", "-2@1");
        Check.rows(a, "3 4 0 1", "-1@4");
        Check.rows(Check.array("\"null\""), "3 0 0", "1: 4 0");
        Check.rows(Check.array("\"null\""), "3 2 0", "-6@1");
        Check.rows(Check.map("\"null\""), "1 4 2 97 3 4 2 98 0 0", "-6@5");
        Check.rows(Check.map("\"null\""), "1 4 2 97 3 6 2 98 0 0", "1: 6 2 97 2 98 0 0");
        // The bytes of items are counted as they stand there, not as they are in normal form.
        Check.rows(Check.array("\"int\""), "1 6 133 128 0 0", "1: 2 5 0");
        Check.rows(Check.array(Check.array("\"int\"")), "1 14 1 2 5 2 134 0 0 0", "1: 2 4 5 6 0 0");
    }

    private static void items() {
        String n = Check.array("\"null\"");
        Check.rows(n, "160 31 0", "1: 160 31 0");
        Check.rows(n, "162 31", "-6@0");
        Check.rows(n, "161 31", "-6@0");
        Check.rows(n, "159 31 0 0", "1: 160 31 0");
        Check.rows(n, "158 31 2 0 158 31 1 0 0 160 31 0", "3: 160 31 0 160 31 0 160 31 0");
        Check.rows(n, "158 31 4", "-6@2");
        Check.rows(n, "158 31 3", "-6@2");
        Check.rows(n, "2 158 31 2", "-6@3");
        Check.rows(n, LONGEST + " 1", "-6@0");
        Check.rows(n, "254 255 255 255 255 255 255 255 255 1", "-6@0");
        Check.rows(n, "255 255 255 255 255 255 255 255 255 1", "-6@0");
        Check.rows(n, "2 254 255 255 255 255 255 255 255 255 1", "-6@1");
        Check.rows(n, "2 255 255 255 255 255 255 255 255 255 1", "-6@1");
        Check.rows(n, "128 128 128 128 128 64 0", "-6@0");
        Check.rows(Check.map("\"null\""), "162 31", "-6@0");
        Check.rows(Check.map("\"null\""), "160 31", "-1@2");
        // Items within items count, from the block on in which they are told.
        String nn = Check.array(n);
        Check.rows(nn, "2 158 31 0 0", "1: 2 158 31 0 0");
        Check.rows(nn, "2 160 31 0 0", "-6@1");
        Check.rows(nn, "4 2 0 156 31 0 0", "-6@3");
        Check.rows(nn, "4 2 0 154 31 0 0", "1: 4 2 0 154 31 0 0");
        Check.rows(Check.record("R", "a=" + n, "b=" + Check.map("\"null\"")), "158 31 0 2 2 97 0 160 31 0 0", "2: 158 31 0 2 2 97 0 160 31 0 0");
        Check.rows(Check.record("R", "a=" + n, "b=" + Check.map("\"null\"")), "158 31 0 4 2 97", "-6@3");
    }

    private static void depth() {
        // The row lies in none, its union in one, that one's branch in two: the 15th union lies in 29.
        String chain = Check.record("R", "n=[\"null\",\"R\"]");
        Check.rows(chain, "2 ".repeat(14) + "0", "1: " + "2 ".repeat(14) + "0");
        Check.rows(chain, "2 ".repeat(15) + "0", "-7@16");
        Check.rows(chain, "2 ".repeat(16) + "0", "-7@16");
        Check.rows(chain, "2 ".repeat(16), "-7@16");
        Check.rows(chain, "2 ".repeat(15), "-1@15");
        Check.rows(Check.record("R", "n=\"R\""), "0", "-7@0");
        Check.rows(Check.record("R", "b=\"boolean\"", "n=\"R\""), "1 ".repeat(40), "-7@31");
        Check.rows(Check.record("R", "b=\"boolean\"", "n=\"R\""), "1 ".repeat(31), "-7@31");
        Check.rows(Check.record("R", "b=\"boolean\"", "n=\"R\""), "1 ".repeat(30), "-1@30");
        String tree = Check.record("R", "n=" + Check.array("\"R\""));
        Check.rows(tree, "2 ".repeat(15) + "0 ".repeat(16), "1: " + "2 ".repeat(15) + "0 ".repeat(15) + "0");
        Check.rows(tree, "2 ".repeat(16) + "0 ".repeat(17), "-7@16");
        String maps = Check.record("R", "n=" + Check.map("\"R\""));
        Check.rows(maps, "2 0 ".repeat(16) + "0 ".repeat(17), "-7@32");
        Check.rows(maps, "2 0 ".repeat(15) + "2 1", "-6@31");
        Check.rows(maps, "2 0 ".repeat(15) + "0 ".repeat(16), "1: " + "2 0 ".repeat(15) + "0 ".repeat(15) + "0");
    }

    private static void counts() {
        // A row of 2 n + 2 data for n items: the record, the array, and two for each item.
        String pairs = Check.record("R", "a=" + Check.array(Check.record("S", "x=\"null\"")), "b=\"boolean\"");
        Check.rows(pairs, "156 31 0 1", "1: 156 31 0 1");
        // 3 + 2 * 1999 = 4001 with the boolean.
        Check.rows(pairs, "158 31 0 1", "-8@3");
        Check.rows(pairs, "158 31 0", "-8@3");
        Check.rows(pairs, "158 31", "-1@2");
        Check.rows(pairs, "156 31 0 1 156 31 0 1", "2: 156 31 0 1 156 31 0 1");
        Check.rows(pairs, "160 31 0 1", "-8@2");
        // Where both could be told it is 7.
        StringBuilder b = new StringBuilder();
        for (int k = 0; k < 9; k++) {
            b.append(k == 0 ? "" : ",").append("{\"name\":\"f").append(k).append("\",\"type\":");
            b.append(Check.record("A" + k, k == 0 ? "x=\"null\"" : "x=\"A" + (k - 1) + "\"", k == 0 ? "y=\"null\"" : "y=\"A" + (k - 1) + "\""));
            b.append('}');
        }
        String big = "{\"type\":\"record\",\"name\":\"T\",\"fields\":[" + b + ",{\"name\":\"k\",\"type\":[\"null\",\"A8\",\"A7\"]},"
                + "{\"name\":\"l\",\"type\":" + Check.record("L", "n=\"L\"") + "}]}";
        // f0 .. f8 have 3 + 7 + .. + 1023 = 2035 data, and the row itself is one; so are k and its branch.
        Check.rows(big, "0", "-7@1");
        Check.rows(big.replace("\"n\",\"type\":\"L\"", "\"n\",\"type\":\"A8\""), "2", "-8@1");
    }

    private static void empty() {
        for (String t : new String[] {"\"null\"", Check.fixed("F", 0), Check.record("R"), Check.record("R", "a=\"null\"", "b=" + Check.fixed("F", 0))}) {
            Check.rows(t, "", "-34");
            Check.rows(t, "0", "-34");
            Check.rows(t, "1 2 3", "-34");
        }
        Check.rows("\"int\"", "", "-34");
        Check.rows(Check.record("R", "n=\"R\""), "", "-34");
    }

    private static void effects() {
        Check c = new Check().keep(0, "\"boolean\"").keep(7, Check.array("\"int\"")).keep(3, "\"null\"");
        Check.due("rows", c.load(0, 1, 0), "2");
        c.teller.read(0, 0);
        for (int p : new int[] {-1, 8, Integer.MAX_VALUE, Integer.MIN_VALUE}) {
            Check.due("place " + p, Check.answer(() -> c.teller.load(p)), "throws.IndexOutOfBoundsException");
        }
        Check.due("no schema", Check.answer(() -> c.teller.load(1)), "throws.IllegalStateException");
        Check.due("faulty rows", c.load(7, 2, 5, 0, 2), "-1@4");
        Check.due("old rows stay", c.teller.rows() + ": " + c.letters(0), "2: 1 0");
        Check.due("tape stays", c.tapeLength(), 4);
        Check.due("empty rows", c.load(3, 9), "-34");
        Check.due("old rows stay", c.teller.rows() + ": " + c.letters(0), "2: 1 0");
        Check.due("tape stays", c.tapeLength(), 1);
        Check.due("they are told still", c.read(0, 0), "1");
        Check.due("new rows", c.load(7, 2, 5, 0), "1");
        Check.due("in the old ones' stead", c.teller.rows() + ": " + c.letters(0), "1: 2 5 0");
        Check.due("OUT stays", c.letters(1), "1");
        Check.due("as the new schema", c.read(7, 0), "2 5 0");
        Check.due("not as the old one", c.read(0, 0), "-20");
        byte[] most = new byte[4096];
        Check.due("4096 rows", c.load(0, most), "4096");
        Check.due("their bytes", c.teller.size(0), 4096);
        Check.due("as many as fit", c.teller.all(0), 4096);
        most[4095] = 2;
        Check.due("a fault in the last", c.load(0, most), "-3@4095");
    }
}
