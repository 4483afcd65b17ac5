/** letter: a byte of all rows (0) or of OUT (1). */
public final class Promise09Test {
    public static void main(String[] args) {
        Check c = new Check().keep(0, Check.fixed("F", 2)).keep(1, "\"null\"");
        RecordTeller t = c.teller;
        Check.due("load", c.load(0, 0, 255, 128, 127), "2");
        Check.due("rows", c.letters(0), "0 255 128 127");
        Check.due("OUT", c.letters(1), "");
        t.read(0, 1);
        Check.due("OUT", c.letters(1), "128 127");
        for (int what : new int[] {-1, 2, Integer.MAX_VALUE, Integer.MIN_VALUE}) {
            for (int i : new int[] {0, -1, 4, Integer.MIN_VALUE}) {
                Check.due("letter " + i + ", " + what, Check.answer(() -> t.letter(i, what)), "throws.IllegalArgumentException");
            }
        }
        for (int i : new int[] {-1, Integer.MIN_VALUE, Integer.MAX_VALUE, 4, 4095, 4096}) {
            Check.due("letter " + i + " of rows", Check.answer(() -> t.letter(i, 0)), "throws.IndexOutOfBoundsException");
        }
        for (int i : new int[] {-1, Integer.MIN_VALUE, Integer.MAX_VALUE, 2, 3}) {
            Check.due("letter " + i + " of OUT", Check.answer(() -> t.letter(i, 1)), "throws.IndexOutOfBoundsException");
        }
        t.read(1, 0);
        Check.due("letter of no OUT", Check.answer(() -> t.letter(0, 1)), "throws.IndexOutOfBoundsException");
        Check.done();
    }
}
