import java.util.ArrayList;
import java.util.List;

/** Each sentence of the document's part on rows of bytes (FAULTS 1 to 8, EMPTY, NORMAL) that names an edge. */
public final class EdgesOfRowsTest {
    private static final String BOOLEANS = Check.array("\"boolean\"");
    private static final String NULLS = Check.array("\"null\"");
    private static final long TWO_TO_32 = 1L << 32;
    /** Numbers that are small ones if just some of their bits are looked at, and the ends of what can be told. */
    private static final long[] BIG = {1L << 31, TWO_TO_32, TWO_TO_32 + 1, TWO_TO_32 + 2, 1L << 33, 1L << 40, 1L << 62, Long.MAX_VALUE - 1,
        Long.MAX_VALUE};

    public static void main(String[] args) {
        nulls();
        booleans();
        varints();
        tenBytesAtMost();
        ints();
        strings();
        fixeds();
        enums();
        unions();
        records();
        blocks();
        lengthsOfBlocks();
        itemsOfARow();
        itemsWithinItems();
        inThirtyTwoOthers();
        whatCountsAsDepth();
        dataOfARow();
        sevenBeforeEight();
        lackingBytesFirst();
        emptyRows();
        oneBehindTheOther();
        normalForm();
        asManyAsTheTapeHas();
        Check.done();
    }

    /** "NULL: no byte" */
    private static void nulls() {
        Check.rows(Check.record("R", "a=\"null\"", "b=\"boolean\"", "c=\"null\""), "1 0", "2: 1 0");
        Check.rows("[\"null\"]", "0 0 0", "3: 0 0 0");
        Check.rows("\"null\"", "0", "-34");
    }

    /** "BOOLEAN: 0 or 1", "3 a boolean byte above 1" */
    private static void booleans() {
        for (int b = 0; b < 256; b++) {
            Check.rows("\"boolean\"", "" + b, b < 2 ? "1: " + b : "-3@0");
            Check.rows("\"boolean\"", "1 0 " + b + " 9", b < 2 ? "-3@3" : "-3@2");
        }
        Check.rows(Check.record("R", "a=\"boolean\"", "b=\"boolean\""), "1", "-1@1");
        Check.rows(Check.record("R", "a=\"boolean\"", "b=\"boolean\""), "2", "-3@0");
    }

    /** "of v the number 2 v (v not below 0), else -2 v - 1, in pieces of 7 bits, lowest first, each a byte, 128 more in all but the last" */
    private static void varints() {
        Check.due("how the test writes them", Check.varint(0) + "," + Check.varint(-1) + "," + Check.varint(1) + "," + Check.varint(63) + ","
                + Check.varint(-64) + "," + Check.varint(64) + "," + Check.varint(-65) + "," + Check.varint(1, 3), "0,1,2,126,127,128 1,129 1,130 128 0");
        List<Long> edges = new ArrayList<>(List.of(0L, 1L, 2L));
        for (int k = 7; k <= 63; k += 7) {
            for (long v = (1L << k - 1) - 2; v <= (1L << k - 1) + 1; v++) {
                edges.add(v);
            }
        }
        edges.add(Long.MAX_VALUE);
        for (long v : edges) {
            for (long n : new long[] {v, -v, -v - 1}) {
                boolean small = n == (int) n;
                String told = Check.varint(n);
                Check.rows("\"long\"", told, "1: " + told);
                Check.rows("\"int\"", told + " 0", small ? "2: " + told + " 0" : "-2@0");
                // "as short as can be"
                for (int bytes = told.split(" ").length; bytes <= 10; bytes++) {
                    Check.rows("\"long\"", Check.varint(n, bytes) + " 2", "2: " + told + " 2");
                    Check.rows("\"int\"", "1 " + Check.varint(n, bytes), small ? "2: 1 " + told : "-2@1");
                }
                // "1 a byte lacks, at the length"
                String before = told;
                while (before.contains(" ")) {
                    before = before.substring(0, before.lastIndexOf(' '));
                    Check.rows("\"long\"", before, "-1@" + before.split(" ").length);
                    Check.rows("\"int\"", "7 " + before, "-1@" + (1 + before.split(" ").length));
                }
            }
        }
    }

    /** "ten at most, the tenth 0 or 1", "2 a varint of more than ten bytes, or its tenth above 1" */
    private static void tenBytesAtMost() {
        String nine = "129 128 128 128 128 128 128 128 128 ";
        for (int b = 0; b < 256; b++) {
            String due = b == 0 ? "1" : "129 128 128 128 128 128 128 128 128 1";
            Check.rows("\"long\"", nine + b, b < 2 ? "1: " + due : "-2@0");
            Check.rows("\"long\"", "4 " + nine + b + " 0", b < 2 ? "3: 4 " + due + " 0" : "-2@1");
            Check.rows("\"int\"", nine + b, b == 0 ? "1: 1" : "-2@0");
            Check.rows("\"string\"", nine.replace("129", "130") + b + " 5", b == 0 ? "1: 2 5" : b == 1 ? "-1@11" : "-2@0");
            Check.rows(BOOLEANS, nine.replace("129", "130") + b + " 1 0", b == 0 ? "1: 2 1 0" : b == 1 ? "-6@0" : "-2@0");
            Check.rows("[\"null\",\"boolean\"]", nine.replace("129", "130") + b + " 1", b == 0 ? "1: 2 1" : b == 1 ? "-4@0" : "-2@0");
            Check.rows(Check.symbols("E", "a", "b"), nine.replace("129", "130") + b, b == 0 ? "1: 2" : b == 1 ? "-5@0" : "-2@0");
        }
        for (int k = 10; k < 13; k++) {
            Check.rows("\"long\"", "128 ".repeat(k) + "0", "-2@0");
            Check.rows("\"long\"", "0 " + "255 ".repeat(k) + "0", "-2@1");
        }
        Check.rows("\"long\"", nine, "-1@9");
    }

    /** "an INT beyond 32 bits" */
    private static void ints() {
        for (long v : new long[] {Integer.MAX_VALUE, Integer.MIN_VALUE, Integer.MAX_VALUE - 1L, Integer.MIN_VALUE + 1L}) {
            Check.rows("\"int\"", Check.varint(v), "1: " + Check.varint(v));
            Check.rows("\"int\"", Check.varint(v, 10), "1: " + Check.varint(v));
        }
        for (long v : BIG) {
            for (long n : new long[] {v, -v - 1, -v}) {
                String due = n == Integer.MIN_VALUE ? "1: " + Check.varint(n) : "-2@0";
                Check.rows("\"int\"", Check.varint(n), due);
                Check.rows("\"int\"", "0 " + Check.varint(n), due.startsWith("1") ? "2: 0 " + Check.varint(n) : "-2@1");
                Check.rows("\"long\"", Check.varint(n), "1: " + Check.varint(n));
            }
        }
        Check.rows("\"int\"", Check.varint(-(1L << 31) - 1), "-2@0");
    }

    /** "BYTES, STRING: a varint, how many, and these", "6 a number of bytes below 0" */
    private static void strings() {
        for (String t : new String[] {"\"bytes\"", "\"string\""}) {
            Check.rows(t, "0", "1: 0");
            Check.rows(t, "2 255", "1: 2 255");
            Check.rows(t, "2 255 0", "2: 2 255 0");
            for (int n : new int[] {1, 2, 63, 64, 65, 4000}) {
                String all = Check.varint(n) + " 7".repeat(n);
                Check.rows(t, all, "1: " + all);
                Check.rows(t, Check.varint(n, 5) + " 7".repeat(n), "1: " + all);
                String less = Check.varint(n) + " 7".repeat(n - 1);
                Check.rows(t, less, "-1@" + less.split(" ").length);
                Check.rows(t, Check.varint(n), "-1@" + Check.varint(n).split(" ").length);
                Check.rows(t, "0 " + Check.varint(-n) + " 7".repeat(n), "-6@1");
            }
            for (long v : BIG) {
                Check.rows(t, Check.varint(v) + " 0 0 0 0", "-1@" + (Check.varint(v).split(" ").length + 4));
                Check.rows(t, Check.varint(v), "-1@" + Check.varint(v).split(" ").length);
                Check.rows(t, "0 " + Check.varint(-v) + " 0 0 0 0", "-6@1");
                Check.rows(t, "0 " + Check.varint(-v - 1), "-6@1");
            }
            Check.rows(t, "252 63" + " 9".repeat(4094), "1: 252 63" + " 9".repeat(4094));
            Check.rows(t, "254 63" + " 9".repeat(4094), "-1@4096");
        }
        Check.rows(Check.map("\"null\""), "2 1 0", "-6@1");
        Check.rows(Check.map("\"null\""), "2 " + Check.varint(Long.MIN_VALUE) + " 0", "-6@1");
        Check.rows(Check.map("\"null\""), "2 " + Check.varint(TWO_TO_32) + " 0", "-1@7");
        Check.rows(Check.map("\"null\""), "2 4 1", "-1@3");
    }

    /** "FIXED: its bytes" */
    private static void fixeds() {
        for (int n : new int[] {1, 2, 63, 64}) {
            String all = "255 ".repeat(n);
            Check.rows(Check.fixed("F", n), all + all, "2: " + (all + all).trim());
            Check.rows(Check.fixed("F", n), all + "255 ".repeat(n - 1), n == 1 ? "1: 255" : "-1@" + (2 * n - 1));
            Check.rows(Check.record("R", "b=\"boolean\"", "f=" + Check.fixed("F", n)), "1 " + "5 ".repeat(n - 1), "-1@" + n);
        }
        Check.rows(Check.record("R", "f=" + Check.fixed("F", 0), "b=\"boolean\""), "1 0", "2: 1 0");
    }

    private static String symbols(int n) {
        String[] all = new String[n];
        for (int k = 0; k < n; k++) {
            all[k] = "s" + k;
        }
        return Check.symbols("E", all);
    }

    /** "ENUM: a varint, its symbol (0 the first)", "5 no such symbol" */
    private static void enums() {
        for (int n : new int[] {1, 2, 31, 32}) {
            for (int k = 0; k < n; k++) {
                Check.rows(symbols(n), "" + 2 * k, "1: " + 2 * k);
                Check.rows(symbols(n), Check.varint(k, 4), "1: " + 2 * k);
            }
            Check.rows(symbols(n), "0 " + 2 * n, "-5@1");
            Check.rows(symbols(n), "0 " + (2 * n + 2), "-5@1");
            for (long v : BIG) {
                Check.rows(symbols(n), "0 " + Check.varint(v), "-5@1");
                Check.rows(symbols(n), Check.varint(-v) + " 0", "-5@0");
            }
            Check.rows(symbols(n), "1", "-5@0");
            Check.rows(symbols(n), "0 3", "-5@1");
            Check.rows(symbols(n), "0 " + Check.varint(Long.MIN_VALUE), "-5@1");
        }
        // Its default does not help.
        Check.rows(Check.symbols("E", "=a", "b"), "4", "-5@0");
    }

    /** "union: a varint, its branch, and a datum of that", "4 no such branch" */
    private static void unions() {
        for (int n : new int[] {1, 2, 15, 16}) {
            List<String> all = new ArrayList<>();
            for (int k = 0; k < n; k++) {
                all.add(Check.fixed("F" + k, k));
            }
            String u = "[" + String.join(",", all) + "]";
            for (int k = 0; k < n; k++) {
                Check.rows(u, 2 * k + " 9".repeat(k), "1: " + 2 * k + " 9".repeat(k));
                Check.rows(u, Check.varint(k, 4) + " 9".repeat(k) + " 0", "2: " + 2 * k + " 9".repeat(k) + " 0");
                if (k > 0) {
                    Check.rows(u, "0 " + 2 * k + " 9".repeat(k - 1), "-1@" + (k + 1));
                }
            }
            Check.rows(u, "0 " + 2 * n + " 0 0", "-4@1");
            Check.rows(u, "0 " + 2 * n, "-4@1");
            for (long v : BIG) {
                Check.rows(u, "0 " + Check.varint(v), "-4@1");
                Check.rows(u, Check.varint(-v) + " 0", "-4@0");
            }
            Check.rows(u, "1", "-4@0");
            Check.rows(u, "0 " + Check.varint(Long.MIN_VALUE), "-4@1");
        }
    }

    /** "record: its fields' in order" */
    private static void records() {
        String r = Check.record("R", "a=\"int\"", "b=\"string\"", "c=" + Check.record("S", "x=\"boolean\"", "y=\"long\""), "d=\"S\"");
        String all = "9 2 65 1 4 0 6";
        Check.rows(r, all, "1: " + all);
        for (int k = 1; k < 7; k++) {
            Check.rows(r, "9 2 65 1 4 0 6".substring(0, new int[] {0, 1, 3, 6, 8, 10, 12}[k]), "-1@" + k);
        }
        Check.rows(r, "9 2 65 2 4 0 6", "-3@3");
        Check.rows(r, "9 2 65 1 4 2 6", "-3@5");
        Check.rows(r, all + " " + all + " 9", "-1@15");
    }

    /** "array: blocks, each a varint n: 0 is the end; above 0 n items come; below 0 a varint, how many bytes the items have, then -n items" */
    private static void blocks() {
        Check.rows(BOOLEANS, "0", "1: 0");
        Check.rows(BOOLEANS, "2 1 0", "1: 2 1 0");
        Check.rows(BOOLEANS, "1 2 1 0", "1: 2 1 0");
        Check.rows(BOOLEANS, "2 1 1 2 0 2 1 0", "1: 6 1 0 1 0");
        Check.rows(BOOLEANS, "2 1", "-1@2");
        Check.rows(BOOLEANS, "1 2 1", "-1@3");
        Check.rows(BOOLEANS, "1 2", "-1@2");
        Check.rows(BOOLEANS, "1", "-1@1");
        Check.rows(BOOLEANS, "4 1", "-1@2");
        Check.rows(BOOLEANS, "4 1 2 0", "-3@2");
        Check.rows(BOOLEANS, "2 1 2", "-1@3");
        for (int pad = 1; pad <= 10; pad++) {
            Check.rows(BOOLEANS, Check.varint(2, pad) + " 1 0 " + Check.varint(0, pad), "1: 4 1 0 0");
            Check.rows(BOOLEANS, Check.varint(-2, pad) + " " + Check.varint(2, pad) + " 1 0 " + Check.varint(0, pad) + " 0", "2: 4 1 0 0 0");
        }
        String m = Check.map("\"boolean\"");
        Check.rows(m, "0", "1: 0");
        Check.rows(m, "2 0 1 0", "1: 2 0 1 0");
        Check.rows(m, "1 6 2 65 1 0", "1: 2 2 65 1 0");
        Check.rows(m, "1 4 2 65 1 0", "-6@1");
        Check.rows(m, "1 6 " + Check.varint(1, 2) + " 65 1 0", "-6@1");
        Check.rows(m, "1 8 " + Check.varint(1, 2) + " 65 1 0", "1: 2 2 65 1 0");
        Check.rows(m, "2 0 1 4 2 65 0 2 65 1 0", "1: 6 0 1 2 65 0 2 65 1 0");
        Check.rows(m, "2 0 1", "-1@3");
        Check.rows(m, "2 0", "-1@2");
        Check.rows(m, "2", "-1@1");
    }

    /** "a number of bytes before a block that is not that of its items (told behind them, also if it is below 0, or more than there are ...)" */
    private static void lengthsOfBlocks() {
        String s = Check.array("\"string\"");
        for (int told = -3; told < 12; told++) {
            Check.rows(s, "3 " + Check.varint(told) + " 2 65 4 66 67 0", told == 5 ? "1: 4 2 65 4 66 67 0" : "-6@1");
            Check.rows(s, "0 2 0 3 " + Check.varint(told) + " 2 65 4 66 67 0 0", told == 5 ? "3: 0 6 0 2 65 4 66 67 0 0" : "-6@4");
            // Behind them: what is wrong with the items comes first, and what lacks in them.
            Check.rows(s, "3 " + Check.varint(told) + " 2 65 1", "-6@4");
            Check.rows(s, "3 " + Check.varint(told) + " 2 65 4 66", "-1@6");
            Check.rows(BOOLEANS, "3 " + Check.varint(told) + " 1 2 0", "-3@3");
            // It is told before what lacks behind the items.
            Check.rows(s, "3 " + Check.varint(told) + " 2 65 4 66 67", told == 5 ? "-1@7" : "-6@1");
            Check.rows(NULLS, "3 " + Check.varint(told) + " 0", told == 0 ? "1: 4 0" : "-6@1");
        }
        for (long v : BIG) {
            for (long wrap : new long[] {v, v + 5, -v, -v + 5, -v - 5, -v - 1}) {
                int at = 1 + Check.varint(wrap).split(" ").length;
                Check.rows(s, "3 " + Check.varint(wrap) + " 2 65 4 66 67 0", "-6@1");
                Check.rows(s, "3 " + Check.varint(wrap), "-1@" + at);
                Check.rows(NULLS, "3 " + Check.varint(wrap), "-6@1");
            }
        }
        Check.rows(s, "3 " + Check.varint(Long.MIN_VALUE + 5) + " 2 65 4 66 67 0", "-6@1");
        Check.rows(s, "3 " + "128 ".repeat(9) + "2 2 65 4 66 67 0", "-2@1");
        // As many bytes as they have on the tape, not as normal ones.
        Check.rows(s, "3 " + Check.varint(6) + " " + Check.varint(1, 2) + " 65 " + Check.varint(1, 2) + " 66 0", "1: 4 2 65 2 66 0");
        Check.rows(s, "3 " + Check.varint(4) + " " + Check.varint(1, 2) + " 65 " + Check.varint(1, 2) + " 66 0", "-6@1");
        // Blocks within blocks, each with its own number of bytes; the inner one is told first.
        String ss = Check.array(s);
        Check.rows(ss, "1 " + Check.varint(5) + " 1 " + Check.varint(2) + " 2 65 0 0", "1: 2 2 2 65 0 0");
        Check.rows(ss, "1 " + Check.varint(4) + " 1 " + Check.varint(2) + " 2 65 0 0", "-6@1");
        Check.rows(ss, "1 " + Check.varint(4) + " 1 " + Check.varint(3) + " 2 65 0 0", "-6@3");
    }

    /** "the block by which a datum of a row would have more than 2000 items in all (at its first varint, as soon as that is there ...; -2^63 too ...)" */
    private static void itemsOfARow() {
        String m = Check.map("\"null\"");
        for (int n : new int[] {1, 1999, 2000}) {
            Check.rows(NULLS, Check.varint(n) + " 0", "1: " + Check.varint(n) + " 0");
            Check.rows(NULLS, Check.varint(-n) + " 0 0", "1: " + Check.varint(n) + " 0");
            Check.rows(m, Check.varint(n) + " 0".repeat(n) + " 0", "1: " + Check.varint(n) + " 0".repeat(n) + " 0");
        }
        List<Long> many = new ArrayList<>(List.of(2001L, 2002L, 4000L, 4001L, 65536L, 65537L, Integer.MAX_VALUE + 0L));
        for (long v : BIG) {
            many.add(v);
        }
        for (String type : new String[] {NULLS, m, BOOLEANS, Check.map("\"int\"")}) {
            for (long v : many) {
                for (long n : new long[] {v, -v, -v - 1}) {
                    Check.rows(type, Check.varint(n), "-6@0");
                    Check.rows(type, Check.varint(n) + " 0 0 0", "-6@0");
                    Check.rows(type, "0 0 " + Check.varint(n) + " 128", "-6@2");
                }
            }
            Check.rows(type, Check.varint(Long.MIN_VALUE), "-6@0");
            Check.rows(type, Check.varint(Long.MIN_VALUE) + " 0 0", "-6@0");
        }
        // The block by which there would be more: those before it are fine.
        for (int first : new int[] {1, 2, 1000, 1999}) {
            for (int sign = -1; sign < 2; sign += 2) {
                String block = Check.varint(sign * first) + (sign < 0 ? " 0 " : " ");
                String rest = Check.varint(sign * (2000 - first)) + (sign < 0 ? " 0 " : " ");
                int at = block.split(" ").length;
                Check.rows(NULLS, block + rest + "0", "1: 160 31 0");
                Check.rows(NULLS, block + Check.varint(2001 - first), "-6@" + at);
                Check.rows(NULLS, block + Check.varint(first - 2001), "-6@" + at);
                Check.rows(NULLS, block + rest + "2", "-6@" + (at + rest.split(" ").length));
                Check.rows(NULLS, block + rest + "1", "-6@" + (at + rest.split(" ").length));
                Check.rows(NULLS, block + Check.varint(Long.MAX_VALUE), "-6@" + at);
                Check.rows(NULLS, block + Check.varint(Long.MIN_VALUE), "-6@" + at);
                Check.rows(NULLS, block + Check.varint(Long.MIN_VALUE + first), "-6@" + at);
                Check.rows(NULLS, block + Check.varint(TWO_TO_32), "-6@" + at);
            }
        }
        // Each row by itself.
        Check.rows(NULLS, "160 31 0 160 31 0 2 0", "3: 160 31 0 160 31 0 2 0");
        Check.rows(NULLS, "160 31 0 162 31 0", "-6@3");
        Check.rows(BOOLEANS, "160 31" + " 1".repeat(2000) + " 0", "1: 160 31" + " 1".repeat(2000) + " 0");
        Check.rows(BOOLEANS, "160 31" + " 1".repeat(1999), "-1@2001");
    }

    /** "items of all arrays and maps of the row, however they lie in one another, count" */
    private static void itemsWithinItems() {
        String nn = Check.array(NULLS);
        Check.rows(nn, "2 " + Check.varint(1999) + " 0 0", "1: 2 " + Check.varint(1999) + " 0 0");
        Check.rows(nn, "2 " + Check.varint(2000), "-6@1");
        Check.rows(nn, "4 " + Check.varint(1000) + " 0 " + Check.varint(998) + " 0 0", "1: 4 " + Check.varint(1000) + " 0 " + Check.varint(998) + " 0 0");
        Check.rows(nn, "4 " + Check.varint(1000) + " 0 " + Check.varint(999) + " 0 0", "-6@4");
        Check.rows(Check.array(Check.map("\"null\"")), "2 2 0 0 " + Check.varint(1999), "-6@4");
        Check.rows(Check.array(Check.map("\"null\"")), "2 2 0 0 " + Check.varint(1998), "-1@" + 6);
        Check.rows(Check.map(NULLS), "2 0 " + Check.varint(2000), "-6@2");
        Check.rows(Check.map(NULLS), "2 0 " + Check.varint(1999) + " 0 0", "1: 2 0 " + Check.varint(1999) + " 0 0");
        String r = Check.record("R", "a=" + NULLS, "b=[\"null\"," + NULLS + "]", "c=" + Check.record("S", "d=" + Check.map("\"null\"")));
        Check.rows(r, Check.varint(1000) + " 0 2 " + Check.varint(999) + " 0 2 0 0", "1: " + Check.varint(1000) + " 0 2 " + Check.varint(999) + " 0 2 0 0");
        Check.rows(r, Check.varint(1000) + " 0 2 " + Check.varint(1000) + " 0 2 0 0", "-6@7");
        Check.rows(r, Check.varint(1000) + " 0 2 " + Check.varint(1001) + " 0 2 0 0", "-6@4");
        Check.rows(r, Check.varint(1000) + " 0 2 " + Check.varint(1000) + " 0 0", "1: " + Check.varint(1000) + " 0 2 " + Check.varint(1000) + " 0 0");
    }

    /** A record whose field lies so deep; its unions go into themselves as often as it needs. */
    private static String deep(int depth, String leaf) {
        String r = Check.record("R", "u=[\"R\"," + Check.record("L", "x=" + leaf) + "]");
        return depth % 2 == 1 ? r : Check.record("T", "r=" + r);
    }

    /** The bytes before that field. */
    private static String before(int depth) {
        return "0 ".repeat((depth - 3 - (depth + 1) % 2) / 2) + "2 ";
    }

    /** "7 a datum that lies in 32 others (...): at its first byte, before that is read (also where no byte is left)" */
    private static void inThirtyTwoOthers() {
        String[] leaves = {"\"null\"", "\"boolean\"", "\"int\"", "\"long\"", "\"bytes\"", "\"string\"", NULLS, Check.map("\"null\""),
            Check.fixed("F", 2), Check.fixed("F", 0), Check.symbols("E", "a"), Check.record("S")};
        String[] bytes = {"", "1 ", "5 ", "7 ", "2 65 ", "0 ", "0 ", "0 ", "3 4 ", "", "0 ", ""};
        String[] wrong = {"", "2 ", "128 128 128 128 128 1 ", "255 255 255 255 255 255 255 255 255 2 ", "1 ", "3 ", "162 31 ", "2 1 ", "3 ", "", "2 ", ""};
        for (int k = 0; k < leaves.length; k++) {
            for (int depth = 28; depth < 32; depth++) {
                String row = before(depth) + bytes[k];
                Check.rows(deep(depth, leaves[k]), row, "1: " + row.trim());
                Check.rows(deep(depth, leaves[k]), row + row, "2: " + (row + row).trim());
            }
            String in = before(32);
            int at = in.split(" ").length;
            for (String behind : new String[] {bytes[k], wrong[k], "", bytes[k] + "0 0", "255"}) {
                Check.rows(deep(32, leaves[k]), in + behind, "-7@" + at);
            }
        }
        Check.rows(deep(30, "[\"null\"]"), before(30) + "0", "1: " + before(30) + "0");
    }

    /**
     * "(records, branches, items, fields each one within the other; a union's datum is one, its branch's, which lies
     * in it, another; the row's own lies in none)"
     */
    private static void whatCountsAsDepth() {
        int at = before(31).split(" ").length;
        // A union that lies in 31 others is fine, its branch lies in 32: behind the number of the branch.
        Check.rows(deep(31, "[\"null\",\"int\"]"), before(31) + "0", "-7@" + (at + 1));
        Check.rows(deep(31, "[\"null\",\"int\"]"), before(31) + "2", "-7@" + (at + 1));
        Check.rows(deep(31, "[\"null\",\"int\"]"), before(31) + "4", "-4@" + at);
        Check.rows(deep(31, "[\"null\",\"int\"]"), before(31), "-1@" + at);
        Check.rows(deep(31, Check.record("S", "x=\"null\"")), before(31), "-7@" + at);
        Check.rows(deep(31, Check.record("S", "x=" + Check.fixed("F", 0), "y=\"boolean\"")), before(31) + "1", "-7@" + at);
        Check.rows(deep(31, NULLS), before(31) + "2 0", "-7@" + (at + 1));
        Check.rows(deep(31, NULLS), before(31) + "2", "-7@" + (at + 1));
        Check.rows(deep(31, NULLS), before(31) + "1 0", "-7@" + (at + 2));
        Check.rows(deep(31, NULLS), before(31) + "1 9", "-7@" + (at + 2));
        Check.rows(deep(31, NULLS), before(31) + "1", "-1@" + (at + 1));
        Check.rows(deep(31, NULLS), before(31) + "162 31", "-6@" + at);
        // "a key is none and has no depth"
        String m = Check.map("\"int\"");
        Check.rows(deep(31, m), before(31) + "0", "1: " + before(31) + "0");
        Check.rows(deep(31, m), before(31) + "2 2 65 4 0", "-7@" + (at + 3));
        Check.rows(deep(31, m), before(31) + "2 2 65", "-7@" + (at + 3));
        Check.rows(deep(31, m), before(31) + "2 2", "-1@" + (at + 2));
        Check.rows(deep(31, m), before(31) + "2 1", "-6@" + (at + 1));
        Check.rows(deep(30, m), before(30) + "2 2 65 4 0", "1: " + before(30) + "2 2 65 4 0");
        Check.rows(deep(30, NULLS), before(30) + "4 0", "1: " + before(30) + "4 0");
        Check.rows(deep(30, Check.array(NULLS)), before(30) + "2 0 0", "1: " + before(30) + "2 0 0");
        Check.rows(deep(30, Check.array(NULLS)), before(30) + "2 2 0 0", "-7@" + (before(30).split(" ").length + 2));
        // Records in records alone: the row's own lies in none.
        String chain = Check.record("C", "b=\"boolean\"", "n=\"C\"");
        Check.rows(chain, "1 ".repeat(31) + "2", "-7@31");
        Check.rows(chain, "1 ".repeat(30) + "2", "-3@30");
        Check.rows(chain, "1 ".repeat(31), "-7@31");
        Check.rows(chain, "1 ".repeat(30), "-1@30");
        String list = Check.record("C", "n=" + Check.array("\"C\""));
        Check.rows(list, "2 ".repeat(15) + "0 ".repeat(16), "1: " + "2 ".repeat(15) + "0 ".repeat(15) + "0");
        Check.rows(list, "2 ".repeat(16) + "0 ".repeat(17), "-7@16");
        Check.rows(list, "2 ".repeat(16), "-7@16");
        Check.rows(list, "2 ".repeat(15), "-1@15");
        String map = Check.record("C", "n=" + Check.map("\"C\""));
        Check.rows(map, "2 0 ".repeat(15) + "0 ".repeat(16), "1: " + "2 0 ".repeat(15) + "0 ".repeat(15) + "0");
        Check.rows(map, "2 0 ".repeat(16), "-7@32");
        Check.rows(Check.record("C", "n=\"C\""), "9", "-7@0");
        // Those beside one another do not count.
        String two = Check.record("C", "l=" + Check.array("\"C\""), "r=" + Check.array("\"C\""));
        Check.rows(two, "2 ".repeat(15) + "0 ".repeat(32), "1: " + ("2 ".repeat(15) + "0 ".repeat(32)).trim());
    }

    /** A row with an array of records of one field each: 2 n + 2 data, and what is told behind it. */
    private static String pairs(String... behind) {
        List<String> fields = new ArrayList<>(List.of("a=" + Check.array(Check.record("P", "x=\"null\""))));
        fields.addAll(List.of(behind));
        return Check.record("W", fields.toArray(new String[0]));
    }

    /** "8 the 4001st datum of a row (each that 7 speaks of is one, the row's own too; a key is none ...): likewise, behind 7." */
    private static void dataOfARow() {
        String n1999 = Check.varint(1999) + " 0";
        String n1998 = Check.varint(1998) + " 0";
        Check.rows(pairs(), n1998 + " " + n1999, "2: " + n1998 + " " + n1999);
        Check.rows(pairs(), n1999 + " " + n1999, "2: " + n1999 + " " + n1999);
        Check.rows(pairs(), Check.varint(2000) + " 0", "-8@2");
        Check.rows(pairs(), Check.varint(2000), "-8@2");
        Check.rows(pairs(), n1999 + " " + Check.varint(2000) + " 0", "-8@5");
        // The 4001st is told before it is read, also where no byte is left.
        String[] leaves = {"\"null\"", "\"boolean\"", "\"int\"", "\"string\"", NULLS, Check.map("\"null\""), Check.fixed("F", 1),
            Check.fixed("F", 0), Check.symbols("E", "a"), Check.record("S"), "[\"null\"]"};
        String[] bytes = {"", "1", "5", "0", "0", "0", "3", "", "0", "", "0"};
        for (int k = 0; k < leaves.length; k++) {
            for (String behind : new String[] {bytes[k], "", "255", "2"}) {
                Check.rows(pairs("z=" + leaves[k]), n1999 + " " + behind, "-8@3");
                Check.rows(pairs("y=\"null\"", "z=\"null\"", "q=" + leaves[k]), n1998 + " " + behind, "-8@3");
            }
            String row = (n1998 + " " + bytes[k]).trim();
            boolean union = leaves[k].startsWith("[");
            Check.rows(pairs("z=" + leaves[k]), row, "1: " + row);
            Check.rows(pairs("y=\"null\"", "z=" + leaves[k]), row, union ? "-8@4" : "1: " + row);
        }
        // A union is one, its branch another.
        Check.rows(pairs("z=[\"null\",\"int\"]"), n1998 + " 2 9", "1: " + n1998 + " 2 9");
        Check.rows(pairs("y=\"null\"", "z=[\"null\",\"int\"]"), n1998 + " 2 9", "-8@4");
        Check.rows(pairs("y=\"null\"", "z=[\"null\",\"int\"]"), n1998 + " 2", "-8@4");
        Check.rows(pairs("y=\"null\"", "z=[\"null\",\"int\"]"), n1998 + " 4", "-4@3");
        Check.rows(pairs("y=\"null\"", "z=[\"null\",\"int\"]"), n1998, "-1@3");
        // Items are data; the 4001st item is told where it begins, behind its key.
        Check.rows(pairs("y=\"null\"", "z=" + NULLS), n1998 + " 2 0", "-8@4");
        Check.rows(pairs("y=\"null\"", "z=" + Check.map("\"int\"")), n1998 + " 2 2 65 9 0", "-8@6");
        Check.rows(pairs("y=\"null\"", "z=" + Check.map("\"int\"")), n1998 + " 2 2", "-1@5");
        Check.rows(pairs("y=\"null\"", "z=" + Check.map("\"int\"")), n1998 + " 2 1", "-6@4");
        Check.rows(pairs("z=" + Check.map("\"int\"")), n1998 + " 2 2 65 9 0", "1: " + n1998 + " 2 2 65 9 0");
        // Keys are none: a map of 1999 records of one field.
        String m = Check.map(Check.record("P", "x=\"null\""));
        String keys = Check.varint(1999) + " 0".repeat(1999) + " 0";
        Check.rows("[\"null\"," + m + "]", "2 " + keys, "1: 2 " + keys);
        Check.rows(Check.record("W", "m=" + m), keys, "1: " + keys);
        Check.rows(Check.record("W", "m=" + m, "z=\"boolean\""), keys + " 1", "-8@" + (2 + 1999 + 1));
        Check.rows(Check.array(m), "2 " + keys + " 0", "1: 2 " + keys + " 0");
    }

    /** "likewise, behind 7", and 7 where the 4001st datum lies in 32 others. */
    private static void sevenBeforeEight() {
        String chain = Check.record("C", "n=[\"null\",\"C\"]");
        for (int n = 1981; n < 1987; n++) {
            String head = Check.varint(n) + " 0 ";
            // 2 n + 3 data before the chain's first union, which lies in two others; its sixteenth lies in 32.
            int unions = (4000 - 2 * n - 3) / 2;
            Check.rows(pairs("c=" + chain), head + "2 ".repeat(16), unions < 15 ? due(n, unions) : "-7@18");
            Check.rows(pairs("c=" + chain), head + "2 ".repeat(15), unions < 15 ? due(n, unions) : "-7@18");
            // One more, and the sixteenth union is just the 4001st.
            int left = (4000 - 2 * n - 4) / 2;
            String due = left < 15 ? "-8@" + (3 + left) : "-7@18";
            Check.rows(pairs("z=\"null\"", "c=" + chain), head + "2 ".repeat(16), due);
        }
        Check.rows(pairs("z=\"null\"", "c=" + chain), Check.varint(1983) + " 0 " + "2 ".repeat(16), "-7@18");
        Check.rows(pairs("z=\"null\"", "c=" + chain), Check.varint(1984) + " 0 " + "2 ".repeat(16), "-8@17");
    }

    /** Where the 4001st is a union's branch it is told behind that union's number. */
    private static String due(int items, int unions) {
        return "-8@" + (3 + unions + (4000 - 2 * items - 3) % 2);
    }

    /** "1 comes before others where bytes lack" */
    private static void lackingBytesFirst() {
        Check.rows("\"int\"", "255 255 255 255 255", "-1@5");
        Check.rows("\"int\"", "128 128 128 128 128 128 128 128 128", "-1@9");
        Check.rows("[\"null\"]", "254", "-1@1");
        Check.rows(Check.symbols("E", "a"), "254", "-1@1");
        Check.rows("\"string\"", "129", "-1@1");
        Check.rows(NULLS, "255", "-1@1");
        Check.rows(NULLS, "162", "-1@1");
        Check.rows(NULLS, "255 255 255", "-1@3");
        Check.rows(BOOLEANS, "3 129", "-1@2");
        Check.rows(BOOLEANS, "3 1", "-1@2");
    }

    /** "or EMPTY when the tape has no byte, or a row ends (without a FAULT) and has none" */
    private static void emptyRows() {
        String[] types = {"\"null\"", Check.fixed("F", 0), Check.record("R"), Check.record("R", "a=\"null\""),
            Check.record("R", "a=" + Check.record("S", "x=\"null\""), "b=\"S\"", "c=" + Check.fixed("F", 0))};
        for (String t : types) {
            Check.rows(t, "", "-34");
            Check.rows(t, "0", "-34");
            Check.rows(t, "255 1 2", "-34");
            Check.rows("[" + t + "]", "0", "1: 0");
        }
        for (String t : new String[] {"\"int\"", "\"string\"", "[\"null\"]", NULLS, Check.record("R", "a=\"R\"")}) {
            Check.rows(t, "", "-34");
        }
        // Without a FAULT: one that has no byte and a FAULT has that.
        Check.rows(Check.record("R", "a=\"R\""), "0", "-7@0");
        // Each has two of the one before it: 3, 7, 15 .. data, nine of them 2035, ten 4082.
        List<String> fields = new ArrayList<>();
        for (int k = 0; k < 10; k++) {
            String one = k == 0 ? "\"null\"" : "\"A" + (k - 1) + "\"";
            fields.add("f" + k + "=" + Check.record("A" + k, "x=" + one, "y=" + one));
        }
        Check.rows(Check.record("T", fields.subList(0, 9).toArray(new String[0])), "0", "-34");
        Check.rows(Check.record("T", fields.toArray(new String[0])), "0", "-8@0");
    }

    /** "The tape is looked at as rows, one behind the other, of a place's schema, to its end: how many" */
    private static void oneBehindTheOther() {
        Check.rows("\"boolean\"", "1", "1: 1");
        Check.rows("\"boolean\"", "1 0", "2: 1 0");
        Check.rows(Check.record("R", "a=\"boolean\"", "b=\"boolean\""), "1 0 1", "-1@3");
        Check.rows(Check.record("R", "a=\"boolean\"", "b=\"boolean\""), "1 0 1 1", "2: 1 0 1 1");
        Check.rows(NULLS, "0 2 0 0", "3: 0 2 0 0");
        Check.rows(NULLS, "0 2", "-1@2");
    }

    /** "NORMAL: each varint as short as can be, items all in one block, with n above 0, and the end." */
    private static void normalForm() {
        String all = Check.record("R", "i=\"int\"", "l=\"long\"", "b=\"bytes\"", "s=\"string\"", "e=" + Check.symbols("E", "a", "b"), "u=[\"null\",\"int\"]",
                "a=" + Check.array("\"int\""), "m=" + Check.map("\"long\""));
        String row = "";
        for (long v : new long[] {-3, 4}) {
            row += Check.varint(v, 10) + " ";
        }
        row += Check.varint(2, 10) + " 8 9 " + Check.varint(1, 10) + " 7 " + Check.varint(1, 10) + " " + Check.varint(1, 10) + " " + Check.varint(-5, 10) + " ";
        row += Check.varint(1, 10) + " " + Check.varint(6, 10) + " " + Check.varint(-1, 10) + " " + Check.varint(10, 10) + " "
                + Check.varint(-7, 10) + " " + Check.varint(0, 10) + " ";
        row += Check.varint(-1, 10) + " " + Check.varint(21, 10) + " " + Check.varint(1, 10) + " 75 " + Check.varint(8, 10) + " " + Check.varint(1, 10) + " "
                + Check.varint(0, 10) + " " + Check.varint(9, 10) + " " + Check.varint(0, 10);
        String due = "5 8 4 8 9 2 7 2 2 9 4 12 13 0 4 2 75 16 0 18 0";
        Check.rows(all, row, "1: " + due);
        Check.rows(all, due + " " + row, "2: " + due + " " + due);
        // Blocks of one item each: as many of them as make the number of items two bytes long.
        for (int n : new int[] {63, 64, 65}) {
            Check.rows(NULLS, "2 ".repeat(n) + "0", "1: " + Check.varint(n) + " 0");
            Check.rows(NULLS, "1 0 ".repeat(n) + "0", "1: " + Check.varint(n) + " 0");
            Check.rows(BOOLEANS, "2 1 ".repeat(n) + "0 0", "2: " + Check.varint(n) + " 1".repeat(n) + " 0 0");
            Check.rows(Check.map("\"int\""), "1 4 0 5 ".repeat(n) + "0", "1: " + Check.varint(n) + " 0 5".repeat(n) + " 0");
            Check.rows(Check.array(NULLS), "2 2 2 0 ".repeat(n) + "0", "1: " + Check.varint(n) + " 4 0".repeat(n) + " 0");
        }
        Check.rows(NULLS, "2 ".repeat(2000) + "0", "1: 160 31 0");
        Check.rows(NULLS, "1 0 ".repeat(2000) + "0", "1: 160 31 0");
        Check.rows(NULLS, "2 ".repeat(2000) + "2 0", "-6@2000");
        Check.rows(NULLS, Check.varint(2, 10) + " " + Check.varint(-2, 10) + " " + Check.varint(0, 10) + " " + Check.varint(0, 10), "1: 8 0");
    }

    /** Rows on a full tape. */
    private static void asManyAsTheTapeHas() {
        Check.rows("\"boolean\"", new byte[4096], "4096: " + "0 ".repeat(4096).trim());
        Check.rows(Check.fixed("F", 64), new byte[4096], "64: " + "0 ".repeat(4096).trim());
        Check.rows(Check.fixed("F", 63), new byte[4096], "-1@4096");
        Check.rows("[\"null\"]", new byte[4096], "4096: " + "0 ".repeat(4096).trim());
        Check.rows(NULLS, new byte[4096], "4096: " + "0 ".repeat(4096).trim());
        byte[] last = new byte[4096];
        last[4095] = 2;
        Check.rows("\"boolean\"", last, "-3@4095");
        Check.rows(NULLS, last, "-1@4096");
        Check.rows("\"int\"", last, "4096: " + "0 ".repeat(4095) + "2");
        last[4095] = (byte) 128;
        Check.rows("\"int\"", last, "-1@4096");
    }
}
