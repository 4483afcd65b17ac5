/** feed: twenty bytes come behind the tape, each number's highest first. */
public final class Promise02Test {
    public static void main(String[] args) {
        order();
        bounds();
        Check.done();
    }

    private static void order() {
        Check c = new Check();
        c.keep(0, Check.fixed("F", 40));
        Check.due("first", c.teller.feed(0x01020304, 0x05060708, 0x090a0b0c, 0x0d0e0f10, 0x11121314), 20);
        Check.due("second", c.teller.feed(-1, 0x80000000, 0x7fffffff, 0xfe, 0x00ff00aa), 40);
        Check.due("load", c.teller.load(0), 1);
        Check.due("bytes", c.letters(0), "1 2 3 4 5 6 7 8 9 10 11 12 13 14 15 16 17 18 19 20"
                + " 255 255 255 255 128 0 0 0 127 255 255 255 0 0 0 254 0 255 0 170");
        Check.due("behind a load", c.teller.feed(0, 0, 0, 0, 0), 20);
        c.teller.end(3);
        Check.due("behind a cut", c.teller.feed(0, 0, 0, 0, 0), 23);
    }

    private static void bounds() {
        Check c = new Check();
        for (int k = 1; k <= 204; k++) {
            Check.due("feed " + k, c.teller.feed(k, k, k, k, k), 20 * k);
        }
        Check.due("one too many", Check.answer(() -> c.teller.feed(1, 2, 3, 4, 5)), "throws.IllegalStateException");
        Check.due("tape behind it", c.tapeLength(), 4080);
        c.teller.end(4077);
        Check.due("a byte too many", Check.answer(() -> c.teller.feed(1, 2, 3, 4, 5)), "throws.IllegalStateException");
        c.teller.end(4076);
        Check.due("just full", c.teller.feed(1, 2, 3, 4, 5), 4096);
        Check.due("when full", Check.answer(() -> c.teller.feed(1, 2, 3, 4, 5)), "throws.IllegalStateException");
        Check.due("full tape", c.tapeLength(), 4096);
    }
}
