import java.nio.charset.StandardCharsets;
import java.util.concurrent.Callable;

/** A RecordTeller with plain ways to feed it, and a count of the answers that are not due. */
final class Check {
    private static int asked = 0;
    private static int wrong = 0;

    final RecordTeller teller = new RecordTeller();

    static void due(String what, Object got, Object want) {
        asked++;
        if (!String.valueOf(got).equals(String.valueOf(want))) {
            wrong++;
            String asks = what.length() > 400 ? what.substring(0, 300) + " .. " + what.substring(what.length() - 90) : what;
            System.out.println(asks + " answered " + got + ", due is " + want);
        }
    }

    /** Ends the test, and tells by the exit code whether all was as due. */
    static void done() {
        System.out.println(asked + " answers looked at, " + wrong + " not as due");
        System.exit(wrong == 0 && asked > 0 ? 0 : 1);
    }

    /** What a call answers, or throws.Name. */
    static Object answer(Callable<Object> call) {
        try {
            return call.call();
        } catch (Exception e) {
            return "throws." + e.getClass().getSimpleName();
        }
    }

    static byte[] bytes(int... numbers) {
        byte[] b = new byte[numbers.length];
        for (int i = 0; i < b.length; i++) {
            b[i] = (byte) numbers[i];
        }
        return b;
    }

    /** Bytes that are written as numbers, parted by blanks. */
    static byte[] numbers(String written) {
        String[] words = written.isBlank() ? new String[0] : written.trim().split(" +");
        byte[] b = new byte[words.length];
        for (int i = 0; i < b.length; i++) {
            b[i] = (byte) Integer.parseInt(words[i]);
        }
        return b;
    }

    /** The bytes of a varint, written as numbers. */
    static String varint(long v) {
        return varint(v, 1);
    }

    /** A varint of so many bytes at least, more of them than it needs. */
    static String varint(long v, int bytes) {
        StringBuilder b = new StringBuilder();
        long rest = v << 1 ^ v >> 63;
        for (int k = 1; rest >>> 7 != 0 || k < bytes; k++) {
            b.append(rest & 127 | 128).append(' ');
            rest >>>= 7;
        }
        return b.append(rest).toString();
    }

    static byte[] join(byte[]... parts) {
        java.io.ByteArrayOutputStream all = new java.io.ByteArrayOutputStream();
        for (byte[] part : parts) {
            all.writeBytes(part);
        }
        return all.toByteArray();
    }

    static byte[] latin(String text) {
        return text.getBytes(StandardCharsets.ISO_8859_1);
    }

    /** Puts these bytes on an empty tape. */
    Check tape(byte[] b) {
        teller.end(0);
        more(b);
        return this;
    }

    /** Puts these bytes behind the tape. */
    void more(byte[] b) {
        int had = -1;
        for (int i = 0; i < b.length; i += 20) {
            if (i > 0 && i + 20 > b.length) {
                // The last twenty end where the bytes do, so that they find room to the tape's last byte.
                had -= i - (b.length - 20);
                teller.end(had);
                i = b.length - 20;
            }
            int[] n = new int[5];
            for (int k = 0; k < 20; k++) {
                n[k / 4] = n[k / 4] << 8 | (i + k < b.length ? b[i + k] & 255 : 0);
            }
            had = teller.feed(n[0], n[1], n[2], n[3], n[4]);
        }
        if (b.length > 0 && b.length < 20) {
            teller.end(had - (20 - b.length));
        }
    }

    /** The answer of schema and, if it is a fault, its place: "3@17". */
    String schema(int place, String text) {
        tape(latin(text));
        return told(teller.schema(place));
    }

    /** The answer of load and, if it is a fault, its place: "-3@17". */
    String load(int place, int... b) {
        return load(place, bytes(b));
    }

    String load(int place, byte[] b) {
        tape(b);
        return told(teller.load(place));
    }

    private String told(int answer) {
        return answer + (teller.place() == RecordTeller.NONE ? "" : "@" + teller.place());
    }

    /** A schema that must be one. */
    Check keep(int place, String text) {
        due("schema of " + text, schema(place, text), "0");
        return this;
    }

    /** A text that is a schema. */
    static void good(String text) {
        Check c = new Check();
        due(text, c.schema(3, text), "0");
        due("tape behind " + text, c.tapeLength(), 0);
    }

    /** The fault of a text, whose place in it is marked by ^. */
    static void fault(int number, String marked) {
        Check c = new Check();
        due(marked, c.schema(0, marked.replace("^", "")), number + "@" + marked.indexOf('^'));
        due("kept after " + marked, answer(() -> c.teller.fits(0, 0)), "throws.IllegalStateException");
        due("tape after " + marked, c.tapeLength(), marked.length() - 1);
    }

    /** What load answers to a tape; due is a fault and its place, or how many rows, a colon and the normal bytes. */
    static void rows(String schema, String tape, String due) {
        rows(schema, numbers(tape), due);
    }

    static void rows(String schema, byte[] tape, String due) {
        Check c = new Check().keep(1, schema);
        String what = tape.length + " bytes " + java.util.Arrays.toString(java.util.Arrays.copyOf(tape, Math.min(40, tape.length)));
        String got = c.load(1, tape);
        if (!got.startsWith("-")) {
            got = got + ": " + c.letters(0);
            due("rows of " + what, c.teller.rows() + ": ", got.replaceAll(":.*", ": "));
            due("tape behind " + what, c.tapeLength(), 0);
        } else {
            due("no rows of " + what, c.teller.rows(), 0);
            due("tape behind " + what, c.tapeLength(), tape.length);
        }
        due(what + " as " + schema, got, due);
    }

    /** A row of a schema, told as another one. */
    static void told(String writer, String row, String reader, String due) {
        Check c = new Check().keep(0, writer).keep(1, reader);
        due("rows of " + row, c.load(0, numbers(row)), "1");
        due(row + " of " + writer + " as " + reader, c.read(1, 0), due);
        due("all of them", c.teller.all(1), due.startsWith("-") ? 0 : 1);
        due("twice", c.read(1, 0), due);
    }

    static void fits(boolean due, String w, String r) {
        Check c = new Check().keep(2, w).keep(5, r);
        due(w + " fits " + r, c.teller.fits(2, 5), due);
        due(w + " fits itself", c.teller.fits(2, 2), true);
        due("asked again: " + w + " fits " + r, c.teller.fits(2, 5), due);
    }

    /** How many bytes the tape has; it is as before then. */
    int tapeLength() {
        Object fed = answer(() -> teller.feed(0, 0, 0, 0, 0));
        if (fed instanceof Integer) {
            teller.end((Integer) fed - 20);
            return (Integer) fed - 20;
        }
        for (int n = 4096; n > 4076; n--) {
            int most = n;
            if (answer(() -> {
                teller.end(most);
                return "";
            }).equals("")) {
                return n;
            }
        }
        return -1;
    }

    /** All bytes of the rows (0) or of OUT (1), parted by blanks. */
    String letters(int what) {
        StringBuilder b = new StringBuilder();
        for (int i = 0; i < teller.size(what); i++) {
            b.append(i == 0 ? "" : " ").append(teller.letter(i, what));
        }
        due("letter behind the last", answer(() -> teller.letter(teller.size(what), what)),
                "throws.IndexOutOfBoundsException");
        return b.toString();
    }

    /** What a row is as another schema: its bytes, or the answer that it is not told. */
    String read(int place, int i) {
        int answer = teller.read(place, i);
        due("size of OUT", teller.size(1), Math.max(answer, 0));
        return answer < 0 ? String.valueOf(answer) : letters(1);
    }

    /** A record of fields that are written as name and type, or name, type and default. */
    static String record(String name, String... fields) {
        StringBuilder b = new StringBuilder("{\"type\":\"record\",\"name\":\"" + name + "\",\"fields\":[");
        for (int i = 0; i < fields.length; i++) {
            String[] f = fields[i].split("=", 3);
            b.append(i == 0 ? "" : ",").append("{\"name\":\"").append(f[0]).append("\",\"type\":").append(f[1]);
            b.append(f.length > 2 ? ",\"default\":" + f[2] : "").append('}');
        }
        return b.append("]}").toString();
    }

    static String array(String items) {
        return "{\"type\":\"array\",\"items\":" + items + "}";
    }

    static String map(String values) {
        return "{\"type\":\"map\",\"values\":" + values + "}";
    }

    static String fixed(String name, int size) {
        return "{\"type\":\"fixed\",\"name\":\"" + name + "\",\"size\":" + size + "}";
    }

    /** An enum of symbols; one with a = before it is the default too. */
    static String symbols(String name, String... symbols) {
        String fallback = "";
        StringBuilder b = new StringBuilder();
        for (String s : symbols) {
            b.append(b.length() == 0 ? "" : ",").append('"').append(s.replace("=", "")).append('"');
            fallback = s.startsWith("=") ? ",\"default\":\"" + s.substring(1) + "\"" : fallback;
        }
        return "{\"type\":\"enum\",\"name\":\"" + name + "\",\"symbols\":[" + b + "]" + fallback + "}";
    }
}
