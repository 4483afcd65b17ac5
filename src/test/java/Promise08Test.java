/** size: how many bytes all rows (0) or OUT (1) have. */
public final class Promise08Test {
    public static void main(String[] args) {
        Check c = new Check().keep(0, Check.array("\"int\"")).keep(1, "\"null\"");
        RecordTeller t = c.teller;
        for (int what : new int[] {-1, 2, Integer.MAX_VALUE, Integer.MIN_VALUE}) {
            Check.due("size " + what, Check.answer(() -> t.size(what)), "throws.IllegalArgumentException");
        }
        Check.due("no rows", t.size(0) + " " + t.size(1), "0 0");
        Check.due("load", c.load(0, 2, 133, 0, 2, 6, 0, 0, 0), "3");
        Check.due("normal bytes", t.size(0) + " " + t.size(1), "6 0");
        t.read(0, 0);
        Check.due("OUT", t.size(0) + " " + t.size(1), "6 4");
        t.read(0, 2);
        Check.due("another OUT", t.size(0) + " " + t.size(1), "6 1");
        t.read(1, 2);
        Check.due("no OUT", t.size(0) + " " + t.size(1), "6 0");
        t.read(0, 0);
        Check.due("new rows", c.load(0, 0), "1");
        Check.due("OUT stays", t.size(0) + " " + t.size(1), "1 4");
        c.keep(0, "\"int\"");
        Check.due("no rows", t.size(0) + " " + t.size(1), "0 4");
        Check.done();
    }
}
