/** fits: whether no datum of one schema can be unresolved as another one. */
public final class Promise12Test {
    public static void main(String[] args) {
        sixWords();
        unions();
        parts();
        named();
        records();
        cycles();
        wrongInputs();
        Check.done();
    }

    private static void fits(boolean due, String w, String r) {
        Check c = new Check().keep(2, w).keep(5, r);
        Check.due(w + " fits " + r, c.teller.fits(2, 5), due);
        Check.due(w + " fits itself", c.teller.fits(2, 2), true);
        Check.due("asked again: " + w + " fits " + r, c.teller.fits(2, 5), due);
    }

    private static void sixWords() {
        String[] types = {"null", "boolean", "int", "long", "bytes", "string"};
        for (int w = 0; w < 6; w++) {
            for (int r = 0; r < 6; r++) {
                boolean due = w == r || w == 2 && r == 3 || w == 4 && r == 5 || w == 5 && r == 4;
                fits(due, "\"" + types[w] + "\"", "\"" + types[r] + "\"");
                fits(due, Check.array("\"" + types[w] + "\""), Check.array("\"" + types[r] + "\""));
                fits(due, Check.map("\"" + types[w] + "\""), Check.map("\"" + types[r] + "\""));
                fits(due, "[\"" + types[w] + "\"]", "\"" + types[r] + "\"");
                fits(due, "\"" + types[w] + "\"", "[\"" + types[r] + "\"]");
            }
            fits(false, "\"" + types[w] + "\"", Check.array("\"int\""));
            fits(false, Check.map("\"int\""), "\"" + types[w] + "\"");
        }
        fits(false, Check.array("\"int\""), Check.map("\"int\""));
    }

    private static void unions() {
        fits(true, "[\"int\",\"null\"]", "[\"null\",\"long\"]");
        fits(false, "[\"int\",\"null\"]", "[\"null\",\"string\"]");
        fits(false, "[\"int\",\"null\"]", "\"int\"");
        fits(true, "[\"int\",\"long\"]", "\"long\"");
        fits(true, "[\"bytes\",\"string\"]", "[\"bytes\"]");
        fits(true, "\"int\"", "[\"null\",\"int\"]");
        // Only the first branch that matches is asked for.
        fits(false, Check.array("[\"int\",\"null\"]"), "[\"null\"," + Check.array("\"int\"") + "]");
        fits(true, Check.array("[\"int\"]"), "[\"null\"," + Check.array("\"int\"") + "]");
        fits(false, Check.symbols("E", "a"), "[\"int\"," + Check.symbols("E", "b") + "]");
        fits(true, Check.symbols("E", "a"), "[" + Check.symbols("D", "b") + "," + Check.symbols("E", "a") + "]");
        fits(false, Check.array("\"int\""), "[" + Check.array("\"string\"") + "]");
        fits(true, Check.array("[\"int\",\"null\"]"), Check.array("[\"null\",\"long\"]"));
    }

    private static void parts() {
        fits(true, Check.array(Check.map("\"int\"")), Check.array(Check.map("[\"long\"]")));
        fits(false, Check.array(Check.map("\"int\"")), Check.array(Check.array("\"int\"")));
        fits(false, Check.array(Check.map("\"long\"")), Check.array(Check.map("\"int\"")));
    }

    private static void named() {
        fits(true, Check.fixed("F", 3), Check.fixed("F", 3));
        fits(false, Check.fixed("F", 3), Check.fixed("F", 4));
        fits(false, Check.fixed("F", 3), Check.fixed("G", 3));
        fits(false, Check.fixed("F", 3), "\"bytes\"");
        fits(true, Check.symbols("E", "a", "b"), Check.symbols("E", "c", "b", "a"));
        fits(false, Check.symbols("E", "a", "b"), Check.symbols("E", "a", "c"));
        fits(false, Check.symbols("E", "=a", "b"), Check.symbols("E", "a", "c"));
        fits(true, Check.symbols("E", "a", "b"), Check.symbols("E", "=c"));
        fits(false, Check.symbols("E", "a"), Check.symbols("D", "a"));
        fits(false, Check.symbols("E", "a"), Check.record("E"));
        fits(false, Check.record("E"), Check.symbols("E", "a"));
        fits(false, Check.fixed("E", 0), Check.record("E"));
    }

    private static void records() {
        String w = Check.record("R", "a=\"int\"", "b=\"string\"=\"x\"");
        fits(true, w, Check.record("R"));
        fits(false, w, Check.record("S"));
        fits(true, w, Check.record("R", "b=\"bytes\"", "a=\"long\""));
        fits(false, w, Check.record("R", "b=\"bytes\"", "a=\"boolean\""));
        fits(false, w, Check.record("R", "b=\"bytes\"", "a=\"boolean\"=true"));
        fits(false, w, Check.record("R", "c=\"int\""));
        fits(true, w, Check.record("R", "c=\"int\"=1"));
        fits(true, w, Check.record("R", "c=\"null\"=null", "a=[\"null\",\"int\"]"));
        fits(false, Check.record("R"), w);
        fits(true, Check.record("R", "a=\"int\""), w);
        fits(false, Check.record("R", "ab=\"int\""), Check.record("R", "a=\"int\""));
        fits(true, Check.record("R", "a=" + Check.record("S", "x=\"int\""), "b=\"S\""), Check.record("R", "b=" + Check.record("S", "x=\"long\"")));
        fits(false, Check.record("R", "a=" + Check.record("S", "x=\"int\""), "b=\"S\""), Check.record("R", "b=" + Check.record("S", "y=\"long\"")));
    }

    private static void cycles() {
        String list = Check.record("L", "v=\"int\"", "n=[\"null\",\"L\"]");
        fits(true, list, Check.record("L", "n=[\"L\",\"null\"]", "v=\"long\""));
        fits(false, list, Check.record("L", "n=[\"L\",\"null\"]", "v=\"string\""));
        fits(false, list, Check.record("L", "n=[\"L\"]"));
        fits(true, Check.record("L", "n=\"L\""), Check.record("L", "n=\"L\""));
        fits(true, Check.record("L", "n=\"L\""), Check.record("L", "n=[\"null\",\"L\"]", "m=\"int\"=1"));
        fits(false, Check.record("L", "n=\"L\"", "z=\"int\""), Check.record("L", "n=[\"null\",\"L\"]", "z=\"null\""));
        String pair = Check.record("A", "b=" + Check.record("B", "a=" + Check.array("\"A\""), "x=\"int\""));
        fits(true, pair, Check.record("A", "b=" + Check.record("B", "a=" + Check.array("[\"A\"]"))));
        fits(false, pair, Check.record("A", "b=" + Check.record("B", "a=" + Check.array("[\"null\"]"))));
        // A chain of many records, each the field of the next.
        String[] chain = new String[30];
        String[] other = new String[30];
        for (int k = 0; k < 30; k++) {
            String before = k == 0 ? "\"int\"" : "\"A" + (k - 1) + "\"";
            chain[k] = "f" + k + "=" + Check.record("A" + k, "a=" + before, "b=" + before);
            other[k] = "f" + k + "=" + Check.record("A" + k, "a=" + (k == 0 ? "\"string\"" : before));
        }
        fits(true, Check.record("T", chain), Check.record("T", java.util.Arrays.copyOf(chain, 29)));
        fits(false, Check.record("T", chain), Check.record("T", other));
        fits(true, Check.record("T", chain), Check.record("T", chain).replace("\"int\"", "\"long\""));
    }

    private static void wrongInputs() {
        Check c = new Check().keep(3, "\"int\"");
        for (int p : new int[] {-1, 8, Integer.MIN_VALUE, Integer.MAX_VALUE}) {
            Check.due("w " + p, Check.answer(() -> c.teller.fits(p, 3)), "throws.IndexOutOfBoundsException");
            Check.due("r " + p, Check.answer(() -> c.teller.fits(3, p)), "throws.IndexOutOfBoundsException");
            Check.due("none, " + p, Check.answer(() -> c.teller.fits(0, p)), "throws.IndexOutOfBoundsException");
            Check.due(p + ", none", Check.answer(() -> c.teller.fits(p, 0)), "throws.IndexOutOfBoundsException");
        }
        Check.due("w none", Check.answer(() -> c.teller.fits(0, 3)), "throws.IllegalStateException");
        Check.due("r none", Check.answer(() -> c.teller.fits(3, 7)), "throws.IllegalStateException");
        Check.due("the same", c.teller.fits(3, 3), true);
        c.tape(Check.latin("\"string\""));
        c.teller.schema(0);
        Check.due("the other way", c.teller.fits(3, 0) + " " + c.teller.fits(0, 3), "false false");
        Check.due("behind some that do not fit", c.teller.fits(3, 3) + " " + c.teller.fits(0, 0), "true true");
    }
}
