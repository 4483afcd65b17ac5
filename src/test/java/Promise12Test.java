/** fits: whether no datum of one schema can be unresolved as another one. */
public final class Promise12Test {
    public static void main(String[] args) {
        sixWords();
        unions();
        parts();
        named();
        records();
        cycles();
        wrongInputs();
        Check.done();
    }

    private static void sixWords() {
        String[] types = {"null", "boolean", "int", "long", "bytes", "string"};
        for (int w = 0; w < 6; w++) {
            for (int r = 0; r < 6; r++) {
                boolean due = w == r || w == 2 && r == 3 || w == 4 && r == 5 || w == 5 && r == 4;
                Check.fits(due, "\"" + types[w] + "\"", "\"" + types[r] + "\"");
                Check.fits(due, Check.array("\"" + types[w] + "\""), Check.array("\"" + types[r] + "\""));
                Check.fits(due, Check.map("\"" + types[w] + "\""), Check.map("\"" + types[r] + "\""));
                Check.fits(due, "[\"" + types[w] + "\"]", "\"" + types[r] + "\"");
                Check.fits(due, "\"" + types[w] + "\"", "[\"" + types[r] + "\"]");
            }
            Check.fits(false, "\"" + types[w] + "\"", Check.array("\"int\""));
            Check.fits(false, Check.map("\"int\""), "\"" + types[w] + "\"");
        }
        Check.fits(false, Check.array("\"int\""), Check.map("\"int\""));
    }

    private static void unions() {
        Check.fits(true, "[\"int\",\"null\"]", "[\"null\",\"long\"]");
        Check.fits(false, "[\"int\",\"null\"]", "[\"null\",\"string\"]");
        Check.fits(false, "[\"int\",\"null\"]", "\"int\"");
        Check.fits(true, "[\"int\",\"long\"]", "\"long\"");
        Check.fits(true, "[\"bytes\",\"string\"]", "[\"bytes\"]");
        Check.fits(true, "\"int\"", "[\"null\",\"int\"]");
        // Only the first branch that matches is asked for.
        Check.fits(false, Check.array("[\"int\",\"null\"]"), "[\"null\"," + Check.array("\"int\"") + "]");
        Check.fits(true, Check.array("[\"int\"]"), "[\"null\"," + Check.array("\"int\"") + "]");
        Check.fits(false, Check.symbols("E", "a"), "[\"int\"," + Check.symbols("E", "b") + "]");
        Check.fits(true, Check.symbols("E", "a"), "[" + Check.symbols("D", "b") + "," + Check.symbols("E", "a") + "]");
        Check.fits(false, Check.array("\"int\""), "[" + Check.array("\"string\"") + "]");
        Check.fits(true, Check.array("[\"int\",\"null\"]"), Check.array("[\"null\",\"long\"]"));
    }

    private static void parts() {
        Check.fits(true, Check.array(Check.map("\"int\"")), Check.array(Check.map("[\"long\"]")));
        Check.fits(false, Check.array(Check.map("\"int\"")), Check.array(Check.array("\"int\"")));
        Check.fits(false, Check.array(Check.map("\"long\"")), Check.array(Check.map("\"int\"")));
    }

    private static void named() {
        Check.fits(true, Check.fixed("F", 3), Check.fixed("F", 3));
        Check.fits(false, Check.fixed("F", 3), Check.fixed("F", 4));
        Check.fits(false, Check.fixed("F", 3), Check.fixed("G", 3));
        Check.fits(false, Check.fixed("F", 3), "\"bytes\"");
        Check.fits(true, Check.symbols("E", "a", "b"), Check.symbols("E", "c", "b", "a"));
        Check.fits(false, Check.symbols("E", "a", "b"), Check.symbols("E", "a", "c"));
        Check.fits(false, Check.symbols("E", "=a", "b"), Check.symbols("E", "a", "c"));
        Check.fits(true, Check.symbols("E", "a", "b"), Check.symbols("E", "=c"));
        Check.fits(false, Check.symbols("E", "a"), Check.symbols("D", "a"));
        Check.fits(false, Check.symbols("E", "a"), Check.record("E"));
        Check.fits(false, Check.record("E"), Check.symbols("E", "a"));
        Check.fits(false, Check.fixed("E", 0), Check.record("E"));
    }

    private static void records() {
        String w = Check.record("R", "a=\"int\"", "b=\"string\"=\"x\"");
        Check.fits(true, w, Check.record("R"));
        Check.fits(false, w, Check.record("S"));
        Check.fits(true, w, Check.record("R", "b=\"bytes\"", "a=\"long\""));
        Check.fits(false, w, Check.record("R", "b=\"bytes\"", "a=\"boolean\""));
        Check.fits(false, w, Check.record("R", "b=\"bytes\"", "a=\"boolean\"=true"));
        Check.fits(false, w, Check.record("R", "c=\"int\""));
        Check.fits(true, w, Check.record("R", "c=\"int\"=1"));
        Check.fits(true, w, Check.record("R", "c=\"null\"=null", "a=[\"null\",\"int\"]"));
        Check.fits(false, Check.record("R"), w);
        Check.fits(true, Check.record("R", "a=\"int\""), w);
        Check.fits(false, Check.record("R", "ab=\"int\""), Check.record("R", "a=\"int\""));
        Check.fits(true, Check.record("R", "a=" + Check.record("S", "x=\"int\""), "b=\"S\""), Check.record("R", "b=" + Check.record("S", "x=\"long\"")));
        Check.fits(false, Check.record("R", "a=" + Check.record("S", "x=\"int\""), "b=\"S\""), Check.record("R", "b=" + Check.record("S", "y=\"long\"")));
    }

    private static void cycles() {
        String list = Check.record("L", "v=\"int\"", "n=[\"null\",\"L\"]");
        Check.fits(true, list, Check.record("L", "n=[\"L\",\"null\"]", "v=\"long\""));
        Check.fits(false, list, Check.record("L", "n=[\"L\",\"null\"]", "v=\"string\""));
        Check.fits(false, list, Check.record("L", "n=[\"L\"]"));
        Check.fits(true, Check.record("L", "n=\"L\""), Check.record("L", "n=\"L\""));
        Check.fits(true, Check.record("L", "n=\"L\""), Check.record("L", "n=[\"null\",\"L\"]", "m=\"int\"=1"));
        Check.fits(false, Check.record("L", "n=\"L\"", "z=\"int\""), Check.record("L", "n=[\"null\",\"L\"]", "z=\"null\""));
        String pair = Check.record("A", "b=" + Check.record("B", "a=" + Check.array("\"A\""), "x=\"int\""));
        Check.fits(true, pair, Check.record("A", "b=" + Check.record("B", "a=" + Check.array("[\"A\"]"))));
        Check.fits(false, pair, Check.record("A", "b=" + Check.record("B", "a=" + Check.array("[\"null\"]"))));
        // A chain of many records, each the field of the next.
        String[] chain = new String[30];
        String[] other = new String[30];
        for (int k = 0; k < 30; k++) {
            String before = k == 0 ? "\"int\"" : "\"A" + (k - 1) + "\"";
            chain[k] = "f" + k + "=" + Check.record("A" + k, "a=" + before, "b=" + before);
            other[k] = "f" + k + "=" + Check.record("A" + k, "a=" + (k == 0 ? "\"string\"" : before));
        }
        Check.fits(true, Check.record("T", chain), Check.record("T", java.util.Arrays.copyOf(chain, 29)));
        Check.fits(false, Check.record("T", chain), Check.record("T", other));
        Check.fits(true, Check.record("T", chain), Check.record("T", chain).replace("\"int\"", "\"long\""));
    }

    private static void wrongInputs() {
        Check c = new Check().keep(3, "\"int\"");
        for (int p : new int[] {-1, 8, Integer.MIN_VALUE, Integer.MAX_VALUE}) {
            Check.due("w " + p, Check.answer(() -> c.teller.fits(p, 3)), "throws.IndexOutOfBoundsException");
            Check.due("r " + p, Check.answer(() -> c.teller.fits(3, p)), "throws.IndexOutOfBoundsException");
            Check.due("none, " + p, Check.answer(() -> c.teller.fits(0, p)), "throws.IndexOutOfBoundsException");
            Check.due(p + ", none", Check.answer(() -> c.teller.fits(p, 0)), "throws.IndexOutOfBoundsException");
        }
        Check.due("w none", Check.answer(() -> c.teller.fits(0, 3)), "throws.IllegalStateException");
        Check.due("r none", Check.answer(() -> c.teller.fits(3, 7)), "throws.IllegalStateException");
        Check.due("the same", c.teller.fits(3, 3), true);
        c.tape(Check.latin("\"string\""));
        c.teller.schema(0);
        Check.due("the other way", c.teller.fits(3, 0) + " " + c.teller.fits(0, 3), "false false");
        Check.due("behind some that do not fit", c.teller.fits(3, 3) + " " + c.teller.fits(0, 0), "true true");
    }
}
