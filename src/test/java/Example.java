import java.nio.charset.StandardCharsets;

/** Points that were written as one schema says, told as another one wants them. */
public final class Example {
    private static final RecordTeller TELLER = new RecordTeller();

    public static void main(String[] args) {
        put("{'type': 'record', 'name': 'Point', 'fields': [{'name': 'x', 'type': 'int'}, {'name': 'y', 'type': 'int'}]}");
        System.out.println("schema(0): " + TELLER.schema(0));
        put("{'type': 'record', 'name': 'Point', 'fields': [{'name': 'y', 'type': 'long'},"
                + "{'name': 'color', 'type': 'string', 'default': 'red'}, {'name': 'x', 'type': 'int'}]}");
        System.out.println("schema(1): " + TELLER.schema(1));
        System.out.println("fits(0, 1): " + TELLER.fits(0, 1));
        System.out.println("fits(1, 0): " + TELLER.fits(1, 0));

        put(new byte[] {14, 3, -40, 4, 0}); // x 7 and y -2; x 300 and y 0
        System.out.println("load(0): " + TELLER.load(0) + ", rows(): " + TELLER.rows());
        System.out.println("all(1): " + TELLER.all(1));
        System.out.println("read(1, 0): " + TELLER.read(1, 0));
        for (int i = 0; i < TELLER.size(1); i++) {
            System.out.println("letter(" + i + ", 1): " + TELLER.letter(i, 1));
        }

        put("{'type': 'recorb'}");
        System.out.println("schema(1): " + TELLER.schema(1) + ", place(): " + TELLER.place());
        put("'string'");
        System.out.println("schema(2): " + TELLER.schema(2) + ", place(): " + TELLER.place());
        System.out.println("read(2, 0): " + TELLER.read(2, 0) + ", size(1): " + TELLER.size(1));
        put(new byte[] {4, 65});
        System.out.println("load(2): " + TELLER.load(2) + ", place(): " + TELLER.place() + ", rows(): " + TELLER.rows());
    }

    /** A text with ' for ", as the tape's only bytes. */
    private static void put(String text) {
        put(text.replace('\'', '"').getBytes(StandardCharsets.ISO_8859_1));
    }

    /** These bytes, 4096 at most, as the tape's only ones. */
    private static void put(byte[] bytes) {
        for (int i = 0; i < bytes.length; i += 20) {
            // The last twenty end where the bytes do, so that they have room to the tape's last byte.
            int from = Math.max(0, Math.min(i, bytes.length - 20));
            int[] n = new int[5];
            for (int k = 0; k < 20; k++) {
                n[k / 4] = n[k / 4] << 8 | (from + k < bytes.length ? bytes[from + k] & 255 : 0);
            }
            TELLER.end(from);
            TELLER.feed(n[0], n[1], n[2], n[3], n[4]);
        }
        TELLER.end(bytes.length);
    }
}
