/** A new object: an empty tape, no schemas, no rows. */
public final class Promise01Test {
    public static void main(String[] args) {
        Check.due("NONE", RecordTeller.NONE, -1);
        Check.due("UNRESOLVED", RecordTeller.UNRESOLVED, -20);
        Check.due("FULL", RecordTeller.FULL, -31);
        Check.due("EMPTY", RecordTeller.EMPTY, -34);
        Check c = new Check();
        RecordTeller t = c.teller;
        Check.due("place", t.place(), -1);
        Check.due("rows", t.rows(), 0);
        Check.due("rows' bytes", t.size(0), 0);
        Check.due("OUT", t.size(1), 0);
        for (int p = 0; p < 8; p++) {
            int place = p;
            Check.due("load", Check.answer(() -> t.load(place)), "throws.IllegalStateException");
            Check.due("all", Check.answer(() -> t.all(place)), "throws.IllegalStateException");
            Check.due("read", Check.answer(() -> t.read(place, 0)), "throws.IndexOutOfBoundsException");
            Check.due("fits", Check.answer(() -> t.fits(place, 7 - place)), "throws.IllegalStateException");
        }
        Check.due("tape", c.tapeLength(), 0);
        Check.due("the empty tape as a text", t.schema(0), 1);
        Check.due("its fault's place", t.place(), 0);
        Check.due("first feed", t.feed(0, 0, 0, 0, 0), 20);
        Check.due("another object's tape", new RecordTeller().feed(0, 0, 0, 0, 0), 20);
        Check.done();
    }
}
