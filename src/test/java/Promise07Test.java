/** rows: how many there are. */
public final class Promise07Test {
    public static void main(String[] args) {
        Check c = new Check().keep(0, "\"int\"").keep(1, Check.fixed("F", 3));
        Check.due("none", c.teller.rows(), 0);
        Check.due("load", c.load(0, 1, 130, 1, 0), "3");
        Check.due("three", c.teller.rows(), 3);
        c.tape(new byte[20]);
        Check.due("whatever the tape has", c.teller.rows(), 3);
        Check.due("load", c.load(1, 1, 2, 3, 4, 5, 6), "2");
        Check.due("two", c.teller.rows(), 2);
        Check.due("load", c.load(0, 128), "-1@1");
        Check.due("two still", c.teller.rows(), 2);
        c.keep(0, "\"long\"");
        Check.due("two still", c.teller.rows(), 2);
        c.keep(1, Check.fixed("F", 3));
        Check.due("gone", c.teller.rows(), 0);
        Check.due("load", c.load(0, 1), "1");
        Check.due("one", c.teller.rows(), 1);
        Check.done();
    }
}
