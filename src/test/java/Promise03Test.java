/** end: the tape is cut behind its first n bytes. */
public final class Promise03Test {
    public static void main(String[] args) {
        Check c = new Check();
        c.keep(0, Check.fixed("F", 1));
        Check.due("below 0", cut(c, -1), "throws.IllegalArgumentException");
        Check.due("least number", cut(c, Integer.MIN_VALUE), "throws.IllegalArgumentException");
        Check.due("more than none", cut(c, 1), "throws.IllegalArgumentException");
        Check.due("none of none", cut(c, 0), "");
        c.teller.feed(0x01020304, 0x05060708, 0x090a0b0c, 0x0d0e0f10, 0x11121314);
        Check.due("one more than it has", cut(c, 21), "throws.IllegalArgumentException");
        Check.due("all", cut(c, 20), "");
        Check.due("most number", cut(c, Integer.MAX_VALUE), "throws.IllegalArgumentException");
        Check.due("three", cut(c, 3), "");
        Check.due("four of three", cut(c, 4), "throws.IllegalArgumentException");
        Check.due("rows of what is left", c.teller.load(0), 3);
        Check.due("their bytes", c.letters(0), "1 2 3");
        Check.due("behind a load", cut(c, 1), "throws.IllegalArgumentException");
        Check.done();
    }

    private static Object cut(Check c, int n) {
        return Check.answer(() -> {
            c.teller.end(n);
            return "";
        });
    }
}
