/** all: how many rows, from the first on, can be told as a schema. */
public final class Promise11Test {
    public static void main(String[] args) {
        Check c = new Check().keep(0, "[\"null\",\"int\",\"string\"]").keep(1, "[\"long\",\"null\"]").keep(2, "\"null\"")
                .keep(3, "[\"bytes\",\"long\",\"null\"]").keep(4, "\"boolean\"");
        RecordTeller t = c.teller;
        Check.due("no rows", t.all(0), 0);
        Check.due("load", c.load(0, 0, 2, 5, 2, 6, 4, 2, 97, 0), "5");
        t.read(0, 4);
        Check.due("as they are", t.all(0), 5);
        Check.due("up to the string", t.all(1), 3);
        Check.due("the first", t.all(2), 1);
        Check.due("all of them", t.all(3), 5);
        Check.due("none", t.all(4), 0);
        Check.due("OUT stays", c.letters(1), "0");
        Check.due("rows stay", c.letters(0), "0 2 5 2 6 4 2 97 0");
        for (int p : new int[] {-1, 8, Integer.MIN_VALUE, Integer.MAX_VALUE}) {
            Check.due("place " + p, Check.answer(() -> t.all(p)), "throws.IndexOutOfBoundsException");
        }
        Check.due("no schema", Check.answer(() -> t.all(7)), "throws.IllegalStateException");
        full();
        Check.done();
    }

    private static void full() {
        Check c = new Check().keep(0, Check.record("R", "s=\"string\""))
                .keep(1, Check.record("R", "s=\"string\"", "d=\"string\"=\"" + "y".repeat(3800) + "\""));
        byte[] small = Check.join(Check.bytes(128, 4), new byte[256]);
        byte[] big = Check.join(Check.bytes(232, 4), new byte[308]);
        c.load(0, Check.join(small, small, big, small));
        Check.due("rows", c.teller.rows(), 4);
        Check.due("up to the one that is FULL", c.teller.all(1), 2);
        Check.due("which is the third", c.read(1, 2), "-31");
        Check.due("the fourth is not", c.teller.read(1, 3), 258 + 3802);
    }
}
