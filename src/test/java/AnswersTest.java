import java.util.ArrayList;
import java.util.List;
import java.util.concurrent.Callable;

/** Calls that have to come to an answer, by schemas of which a datum would have more parts than can be counted. */
public final class AnswersTest {
    private static final int SECONDS = 10;
    private static final String FORTY_ONE = "0 ".repeat(41);

    public static void main(String[] args) throws InterruptedException {
        behindUnresolved("\"null\"");
        behindUnresolved("\"boolean\"");
        behindUnresolved("\"string\"");
        behindUnresolved("\"Fx\"");
        behindUnresolvedWithinItems("\"null\"");
        behindUnresolvedWithinItems("\"string\"");
        behindFull("\"null\"");
        behindFull("\"string\"");
        beforeWhatIsTold();
        rowsOfManyData();
        rowsOfManyUnions();
        rowsOfManyDefaults();
        Check.done();
    }

    /** Holds an answer that has to be there within some seconds. */
    private static void due(String what, Callable<Object> call, Object want) throws InterruptedException {
        Object[] got = {"none in " + SECONDS + " seconds"};
        Thread run = new Thread(() -> got[0] = Check.answer(call));
        run.setDaemon(true);
        run.start();
        run.join(SECONDS * 1000);
        Check.due(what, got[0], want);
        if (run.isAlive()) {
            // It still works on the object: what others answer then tells nothing.
            Check.done();
        }
    }

    /** Row 0 as a place's schema, and all rows as that; what they answer before any of it is told. */
    private static void told(Check c, int place, int read, int all) throws InterruptedException {
        due("read(" + place + ", 0)", () -> c.teller.read(place, 0), read);
        Check.due("size of OUT", c.teller.size(1), Math.max(read, 0));
        due("all(" + place + ")", () -> c.teller.all(place), all);
    }

    /** Twenty-five records: each but the first has three fields of the one before it. */
    private static String triples(String first) {
        List<String> records = new ArrayList<>();
        String before = first;
        for (char name : "ABCDEFGHIJKLMNOPQRSTUVWXY".toCharArray()) {
            records.add(Check.record("" + name, "a=" + before, "b=" + before, "c=" + before));
            before = "\"" + name + "\"";
        }
        return "[" + String.join(",", records.subList(0, 13)) + "],[" + String.join(",", records.subList(13, 25)) + "]";
    }

    /** A record whose first fields define the triples, and others behind them. */
    private static String row(String first, String... fields) {
        String[] unions = triples(first).split("(?<=]}]),(?=\\[)");
        List<String> all = new ArrayList<>(List.of("fx=" + Check.fixed("Fx", 3),
                "z0=" + Check.array(unions[0]), "z15=" + Check.array(unions[1])));
        all.addAll(List.of(fields));
        return Check.record("Row", all.toArray(new String[0]));
    }

    private static void rows(Check c, String bytes, int due) {
        String[] words = bytes.trim().split(" +");
        int[] b = new int[words.length];
        for (int i = 0; i < b.length; i++) {
            b[i] = Integer.parseInt(words[i]);
        }
        Check.due("rows of " + bytes, c.load(0, b), due);
    }

    /** The bytes of what is not told look like 2000 of the last triple to one who goes on there. */
    private static void behindUnresolved(String first) throws InterruptedException {
        String fx = Check.fixed("Fx", 3);
        Check c = new Check().keep(0, row(first, "q=\"Fx\"", "u=[\"null\"," + Check.array("\"Y\"") + "]"))
                .keep(1, Check.record("Row", "q=\"null\"")).keep(2, Check.record("Row", "u=\"int\"", "q=" + fx))
                .keep(3, Check.record("Row", "q=" + fx)).keep(4, Check.record("Row", "x=\"int\"", "q=" + fx));
        rows(c, "0 0 0 0 0 2 160 31 0", 1);
        told(c, 1, RecordTeller.UNRESOLVED, 0);
        told(c, 2, RecordTeller.UNRESOLVED, 0);
        told(c, 3, 3, 1);
        told(c, 4, RecordTeller.UNRESOLVED, 0);
        told(c, 0, 9, 1);
        Check.due("letters", c.letters(1), "0 0 0 0 0 2 160 31 0");
    }

    private static void behindUnresolvedWithinItems(String first) throws InterruptedException {
        String item = Check.record("Item", "p=\"int\"", "q=\"Fx\"", "v=" + Check.array("\"Y\""));
        Check c = new Check().keep(0, row(first, "i=" + Check.map(Check.array(item)), "u=[\"null\"," + Check.array("\"Y\"") + "]"))
                .keep(1, Check.record("Row", "i=" + Check.map(Check.array(Check.record("Item", "q=\"int\"")))))
                .keep(2, Check.record("Row", "i=" + Check.map(Check.array(Check.record("Item", "q=" + Check.fixed("Fx", 3), "x=\"int\"")))))
                .keep(3, Check.record("Row", "i=" + Check.map(Check.array(Check.record("Item", "p=\"long\"")))));
        // A map of one item, that an array of two; each has a number, three bytes and an array without items.
        rows(c, "0 0 0 0 0  2 2 107  4  6 2 160 31 0  8 2 160 31 0  0  0  0", 1);
        told(c, 1, RecordTeller.UNRESOLVED, 0);
        told(c, 2, RecordTeller.UNRESOLVED, 0);
        told(c, 3, 8, 1);
        Check.due("letters", c.letters(1), "2 2 107 4 6 8 0 0");
    }

    private static void behindFull(String first) throws InterruptedException {
        String item = Check.record("Pair", "a=\"int\"");
        String big = ",d=\"string\"=\"" + "y".repeat(98) + "\"";
        Check c = new Check().keep(0, row(first, "q=" + Check.array(item), "u=[\"null\"," + Check.array("\"Y\"") + "]"))
                .keep(1, Check.record("Row", "q=" + Check.array(Check.record("Pair", ("a=\"int\"" + big).split(",")))))
                .keep(2, Check.record("Row", "q=" + Check.array(Check.record("Pair", ("a=\"int\"" + big).split(","))), "u=\"null\""))
                .keep(3, Check.record("Row", "u=[\"null\"]", "q=" + Check.array(item)));
        // 101 bytes an item and one before them: the 41st is FULL; what comes behind it tells of 2000 triples.
        rows(c, "0 0 0 0 0  88 " + FORTY_ONE + "2 2 160 31  0  0", 1);
        told(c, 1, RecordTeller.FULL, 0);
        told(c, 2, RecordTeller.FULL, 0);
        told(c, 3, 48, 1);
    }

    /** What is skipped to find a field that the reader wants first has an end. */
    private static void beforeWhatIsTold() throws InterruptedException {
        Check c = new Check().keep(0, row("\"Fx\"", "n=" + Check.array("\"Y\""), "q=\"Fx\"", "t=\"A\"", "v=\"B\"", "o=\"boolean\""))
                .keep(1, Check.record("Row", "o=\"boolean\"", "q=" + Check.fixed("Fx", 3)));
        rows(c, "0 0 0 0 0  0  2 160 31 " + "1 2 3 ".repeat(3) + "4 5 6 ".repeat(9) + "1", 1);
        told(c, 1, 4, 1);
        Check.due("letters", c.letters(1), "1 2 160 31");
    }

    /** As many rows as can be, of as many data as can be, by names that are long. */
    private static void rowsOfManyData() throws InterruptedException {
        String[] leaves = new String[30];
        String[] turned = new String[30];
        for (int k = 0; k < 30; k++) {
            leaves[k] = "x".repeat(30) + (char) ('a' + k / 26) + (char) ('a' + k % 26) + "=\"null\"";
            turned[29 - k] = leaves[k];
        }
        Check c = new Check().keep(0, tree(leaves)).keep(1, tree(turned));
        Check.due("rows", c.load(0, new byte[4096]), 4096);
        due("all, turned", () -> c.teller.all(1), 4096);
        due("all, as they are", () -> c.teller.all(0), 4096);
    }

    /** Each of 1740 data of no byte is told as the last of sixteen branches, whose names differ in their last letter. */
    private static void rowsOfManyUnions() throws InterruptedException {
        StringBuilder branches = new StringBuilder("[");
        for (char last = 'a'; last < 'p'; last++) {
            branches.append(Check.record("x".repeat(31) + last)).append(',');
        }
        String own = Check.record("x".repeat(31) + 'p');
        Check c = new Check().keep(0, tree(4, Check.record("L", "f=" + own)))
                .keep(1, tree(4, Check.record("L", "f=" + branches + own + "]")));
        Check.due("rows", c.load(0, new byte[4096]), 4096);
        due("all, as unions", () -> c.teller.all(1), 4096);
        Check.due("bytes of one", c.teller.read(1, 0), 4 * 15 * 29 + 1);
    }

    /** Each of 3480 data of no byte is told by thirty-two defaults of none. */
    private static void rowsOfManyDefaults() throws InterruptedException {
        String[] defaults = new String[32];
        for (int k = 0; k < 32; k++) {
            defaults[k] = "d" + k + "=\"null\"=null";
        }
        Check c = new Check().keep(0, tree(8, Check.record("L"))).keep(1, tree(8, Check.record("L", defaults)));
        Check.due("rows", c.load(0, new byte[4096]), 4096);
        due("all, by defaults", () -> c.teller.all(1), 4096);
        Check.due("bytes of one", c.teller.read(1, 0), 1);
    }

    /** A row of one byte with 29 fields, each of fifteen, each of so many leaves. */
    private static String tree(int leaves, String leaf) {
        return Check.record("T", fields(29, Check.record("N", fields(15, Check.record("M", fields(leaves, leaf, "\"L\"")), "\"M\"")),
                "\"N\"", "q=\"boolean\""));
    }

    /** So many fields, the first of which defines the type of the others, and perhaps more behind them. */
    private static String[] fields(int count, String first, String others, String... more) {
        List<String> all = new ArrayList<>();
        for (int k = 0; k < count; k++) {
            all.add("f" + k + "=" + (k == 0 ? first : others));
        }
        all.addAll(List.of(more));
        return all.toArray(new String[0]);
    }

    private static String tree(String[] leaves) {
        String[] middle = new String[11];
        String[] top = new String[12];
        for (int k = 0; k < 11; k++) {
            middle[k] = "m" + k + "=" + (k == 0 ? Check.record("L", leaves) : "\"L\"");
            top[k] = "t" + k + "=\"M\"";
        }
        top[0] = "t0=" + Check.record("M", middle);
        top[11] = "z=\"boolean\"";
        return Check.record("T", top);
    }
}
