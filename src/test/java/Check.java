import java.nio.charset.StandardCharsets;
import java.util.concurrent.Callable;

/** A RecordTeller with plain ways to feed it, and a count of the answers that are not due. */
final class Check {
    private static int asked = 0;
    private static int wrong = 0;

    final RecordTeller teller = new RecordTeller();

    static void due(String what, Object got, Object want) {
        asked++;
        if (!String.valueOf(got).equals(String.valueOf(want))) {
            wrong++;
            System.out.println(what + " answered " + got + ", due is " + want);
        }
    }

    /** Ends the test, and tells by the exit code whether all was as due. */
    static void done() {
        System.out.println(asked + " answers looked at, " + wrong + " not as due");
        System.exit(wrong == 0 && asked > 0 ? 0 : 1);
    }

    /** What a call answers, or throws.Name. */
    static Object answer(Callable<Object> call) {
        try {
            return call.call();
        } catch (Exception e) {
            return "throws." + e.getClass().getSimpleName();
        }
    }

    static byte[] bytes(int... numbers) {
        byte[] b = new byte[numbers.length];
        for (int i = 0; i < b.length; i++) {
            b[i] = (byte) numbers[i];
        }
        return b;
    }

    static byte[] join(byte[]... parts) {
        java.io.ByteArrayOutputStream all = new java.io.ByteArrayOutputStream();
        for (byte[] part : parts) {
            all.writeBytes(part);
        }
        return all.toByteArray();
    }

    static byte[] latin(String text) {
        return text.getBytes(StandardCharsets.ISO_8859_1);
    }

    /** Puts these bytes on an empty tape. */
    Check tape(byte[] b) {
        teller.end(0);
        more(b);
        return this;
    }

    /** Puts these bytes behind the tape. */
    void more(byte[] b) {
        int had = -1;
        for (int i = 0; i < b.length; i += 20) {
            if (i > 0 && i + 20 > b.length) {
                // The last twenty end where the bytes do, so that they find room to the tape's last byte.
                had -= i - (b.length - 20);
                teller.end(had);
                i = b.length - 20;
            }
            int[] n = new int[5];
            for (int k = 0; k < 20; k++) {
                n[k / 4] = n[k / 4] << 8 | (i + k < b.length ? b[i + k] & 255 : 0);
            }
            had = teller.feed(n[0], n[1], n[2], n[3], n[4]);
        }
        if (b.length > 0 && b.length < 20) {
            teller.end(had - (20 - b.length));
        }
    }

    /** The answer of schema and, if it is a fault, its place: "3@17". */
    String schema(int place, String text) {
        tape(latin(text));
        return told(teller.schema(place));
    }

    /** The answer of load and, if it is a fault, its place: "-3@17". */
    String load(int place, int... b) {
        return load(place, bytes(b));
    }

    String load(int place, byte[] b) {
        tape(b);
        return told(teller.load(place));
    }

    private String told(int answer) {
        return answer + (teller.place() == RecordTeller.NONE ? "" : "@" + teller.place());
    }

    /** A schema that must be one. */
    Check keep(int place, String text) {
        due("schema of " + text, schema(place, text), "0");
        return this;
    }

    /** The fault of a text, whose place in it is marked by ^. */
    static void fault(int number, String marked) {
        Check c = new Check();
        due(marked, c.schema(0, marked.replace("^", "")), number + "@" + marked.indexOf('^'));
        due("kept after " + marked, answer(() -> c.teller.fits(0, 0)), "throws.IllegalStateException");
        due("tape after " + marked, c.tapeLength(), marked.length() - 1);
    }

    /** How many bytes the tape has; it is as before then. */
    int tapeLength() {
        Object fed = answer(() -> teller.feed(0, 0, 0, 0, 0));
        if (fed instanceof Integer) {
            teller.end((Integer) fed - 20);
            return (Integer) fed - 20;
        }
        for (int n = 4096; n > 4076; n--) {
            int most = n;
            if (answer(() -> {
                teller.end(most);
                return "";
            }).equals("")) {
                return n;
            }
        }
        return -1;
    }

    /** All bytes of the rows (0) or of OUT (1), parted by blanks. */
    String letters(int what) {
        StringBuilder b = new StringBuilder();
        for (int i = 0; i < teller.size(what); i++) {
            b.append(i == 0 ? "" : " ").append(teller.letter(i, what));
        }
        due("letter behind the last", answer(() -> teller.letter(teller.size(what), what)),
                "throws.IndexOutOfBoundsException");
        return b.toString();
    }

    /** What a row is as another schema: its bytes, or the answer that it is not told. */
    String read(int place, int i) {
        int answer = teller.read(place, i);
        due("size of OUT", teller.size(1), Math.max(answer, 0));
        return answer < 0 ? String.valueOf(answer) : letters(1);
    }

    /** A record of fields that are written as name and type, or name, type and default. */
    static String record(String name, String... fields) {
        StringBuilder b = new StringBuilder("{\"type\":\"record\",\"name\":\"" + name + "\",\"fields\":[");
        for (int i = 0; i < fields.length; i++) {
            String[] f = fields[i].split("=", 3);
            b.append(i == 0 ? "" : ",").append("{\"name\":\"").append(f[0]).append("\",\"type\":").append(f[1]);
            b.append(f.length > 2 ? ",\"default\":" + f[2] : "").append('}');
        }
        return b.append("]}").toString();
    }

    static String array(String items) {
        return "{\"type\":\"array\",\"items\":" + items + "}";
    }

    static String map(String values) {
        return "{\"type\":\"map\",\"values\":" + values + "}";
    }

    static String fixed(String name, int size) {
        return "{\"type\":\"fixed\",\"name\":\"" + name + "\",\"size\":" + size + "}";
    }

    /** An enum of symbols; one with a = before it is the default too. */
    static String symbols(String name, String... symbols) {
        String fallback = "";
        StringBuilder b = new StringBuilder();
        for (String s : symbols) {
            b.append(b.length() == 0 ? "" : ",").append('"').append(s.replace("=", "")).append('"');
            fallback = s.startsWith("=") ? ",\"default\":\"" + s.substring(1) + "\"" : fallback;
        }
        return "{\"type\":\"enum\",\"name\":\"" + name + "\",\"symbols\":[" + b + "]" + fallback + "}";
    }
}
