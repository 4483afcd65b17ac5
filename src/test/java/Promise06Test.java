/** place: where the fault of the latest schema or load was; NONE if it had none, and at first. */
public final class Promise06Test {
    public static void main(String[] args) {
        Check c = new Check();
        RecordTeller t = c.teller;
        Check.due("at first", t.place(), -1);
        Check.due("a text's fault", c.schema(0, "[\"int\",x]"), "1@7");
        Check.due("asked again", t.place(), 7);
        t.end(3);
        t.feed(1, 2, 3, 4, 5);
        Check.due("behind end and feed", t.place(), 7);
        Check.answer(() -> t.schema(8));
        Check.due("behind a schema that throws", t.place(), 7);
        Check.answer(() -> t.load(0));
        Check.due("behind a load that throws", t.place(), 7);
        c.keep(0, "\"boolean\"");
        Check.due("behind a good schema", t.place(), -1);
        Check.due("rows' fault", c.load(0, 1, 0, 5), "-3@2");
        t.fits(0, 0);
        t.all(0);
        Check.due("behind others", t.place(), 2);
        Check.due("EMPTY", t.load(0) + " " + c.load(0, new byte[0]), "-3 -34");
        Check.due("behind EMPTY", t.place(), -1);
        Check.due("a fault", c.load(0, 9), "-3@0");
        Check.due("good rows", c.load(0, 1), "1");
        Check.due("behind good rows", t.place(), -1);
        Check.due("UNRESOLVED", new Check().keep(0, "\"int\"").keep(1, "\"null\"").load(0, 5), "1");
        Check.due("a schema's fault", c.schema(0, "{\"type\":\"array\"}"), "8@0");
        Check.due("a text's length", c.schema(0, "[\"int\","), "1@7");
        Check.due("a default", c.schema(0, Check.record("R", "a=\"int\"=null")),
                "12@" + Check.record("R", "a=\"int\"=null").indexOf("null"));
        c.keep(1, "\"null\"");
        Check.due("a row of no byte", c.load(1, 5), "-34");
        Check.done();
    }
}
