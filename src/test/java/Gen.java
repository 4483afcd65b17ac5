import java.io.ByteArrayOutputStream;
import java.util.ArrayList;
import java.util.Collections;
import java.util.LinkedHashSet;
import java.util.List;
import java.util.Map;
import java.util.Random;
import java.util.Set;
import java.util.TreeMap;

/** Makes texts of schemas that are akin to one another, and rows of them; all by the seeds that it is given. */
final class Gen {
    private static final class Kind {
        String what;
        String name;
        int size;
        String fallback;
        List<String> symbols = new ArrayList<>();
        List<Kind> parts = new ArrayList<>();
        List<String> fields = new ArrayList<>();
    }

    /** Decides by what all texts of a family have in common. */
    private final long family;
    /** Decides by what each text is on its own. */
    private final Random own;
    private Map<String, Kind> named = new TreeMap<>();
    private Set<String> printed = new LinkedHashSet<>();
    /** How many data may yet be made: a record in itself has no end. */
    private int steps;

    Gen(long family, Random own) {
        this.family = family;
        this.own = own;
    }

    private boolean chance(int percent) {
        return own.nextInt(100) < percent;
    }

    String schema() {
        named = new TreeMap<>();
        printed = new LinkedHashSet<>();
        steps = 2000;
        String text = print(vary(family, 0), 0);
        return chance(8) ? spoil(text) : text;
    }

    private String spoil(String text) {
        int i = own.nextInt(text.length());
        String odd = "{}[]\",:\\u0129-ntfxae \n\t\u00ff\u0001";
        char put = odd.charAt(own.nextInt(odd.length()));
        switch (own.nextInt(4)) {
            case 0:
                return text.substring(0, i);
            case 1:
                return text.substring(0, i) + put + text.substring(i);
            case 2:
                return text.substring(0, i) + put + text.substring(i + 1);
            default:
                return text.substring(0, i) + text.substring(i + 1);
        }
    }

    private Kind simple(String what) {
        Kind k = new Kind();
        k.what = what;
        return k;
    }

    private Kind vary(long seed, int depth) {
        Kind k = kind(chance(6) ? own.nextLong() : seed, depth);
        if (k.what.equals("int") && chance(20)) {
            return simple("long");
        }
        if (k.what.equals("string") && chance(20)) {
            return simple("bytes");
        }
        if (!k.what.equals("union") && chance(8)) {
            Kind u = simple("union");
            u.parts.add(simple("null"));
            if (!k.what.equals("null")) {
                u.parts.add(k);
            }
            if (chance(50)) {
                Collections.swap(u.parts, 0, u.parts.size() - 1);
            }
            return u;
        }
        return k;
    }

    private Kind kind(long seed, int depth) {
        Random r = new Random(seed);
        int pick = depth > 4 ? r.nextInt(8) : depth == 0 && r.nextInt(4) > 0 ? 20 : r.nextInt(24);
        long child = r.nextLong();
        if (pick < 8) {
            return simple(List.of("null", "boolean", "int", "long", "bytes", "string", "int", "string").get(pick));
        }
        if (pick < 12) {
            Kind k = simple(pick < 10 ? "array" : "map");
            k.parts.add(vary(child, depth + 1));
            return k;
        }
        if (pick < 15) {
            Kind k = simple("union");
            int count = 1 + r.nextInt(4);
            for (int i = 0; i < count; i++) {
                k.parts.add(vary(r.nextLong(), depth + 1));
            }
            return k;
        }
        if (pick < 17) {
            return nameds("fixed", "F" + r.nextInt(3), r, depth);
        }
        if (pick < 19) {
            return nameds("enum", "E" + r.nextInt(3), r, depth);
        }
        return nameds("record", "R" + r.nextInt(5), r, depth);
    }

    private Kind nameds(String what, String name, Random r, int depth) {
        if (named.containsKey(name)) {
            return named.get(name);
        }
        Kind k = simple(what);
        k.name = name;
        named.put(name, k);
        k.size = chance(90) ? r.nextInt(5) : own.nextInt(67) - 1;
        List<String> letters = new ArrayList<>(List.of("a", "b", "c", "d", "e", "f"));
        Collections.shuffle(letters, r);
        int count = r.nextInt(6) + (what.equals("enum") ? 1 : 0);
        Map<String, Long> seeds = new TreeMap<>();
        letters.forEach(l -> seeds.put(l, r.nextLong()));
        List<String> chosen = new ArrayList<>(letters.subList(0, count));
        if (chance(30)) {
            Collections.shuffle(chosen, own);
        }
        if (chance(20) && chosen.size() > 1) {
            chosen.remove(own.nextInt(chosen.size()));
        }
        if (chance(30)) {
            chosen.add(own.nextInt(chosen.size() + 1), letters.get(own.nextInt(6)));
        }
        if (chance(97)) {
            chosen = new ArrayList<>(new LinkedHashSet<>(chosen));
        }
        if (what.equals("enum")) {
            k.symbols = chosen;
            k.fallback = chance(40) ? chance(90) ? chosen.get(own.nextInt(chosen.size())) : "zz" : null;
        } else if (what.equals("record")) {
            k.fields = chosen;
            for (String f : chosen) {
                k.parts.add(vary(seeds.get(f), depth + 1));
            }
        }
        return k;
    }

    private String blank() {
        return chance(96) ? "" : List.of(" ", "\n", "\t", "\r", "  ").get(own.nextInt(5));
    }

    private String quote(String s) {
        StringBuilder b = new StringBuilder("\"");
        for (char c : s.toCharArray()) {
            int i = "\"\\/\b\f\n\r\t".indexOf(c);
            if (i >= 0 && (c != '/' || chance(50))) {
                b.append('\\').append("\"\\/bfnrt".charAt(i));
            } else if (c < 32 || c > 126 || chance(1)) {
                b.append(String.format(chance(50) ? "\\u%04x" : "\\u%04X", (int) c));
            } else {
                b.append(c);
            }
        }
        return b.append('"').toString();
    }

    private String object(List<String> keysAndValues) {
        List<String> members = new ArrayList<>();
        for (int i = 0; i < keysAndValues.size(); i += 2) {
            String key = keysAndValues.get(i);
            String member = blank() + quote(key) + blank() + ":" + blank() + keysAndValues.get(i + 1) + blank();
            if (own.nextInt(1000) > 2) {
                members.add(member);
            }
        }
        if (chance(5)) {
            members.add("\"doc\":" + List.of("1", "{}", "[[]]", "\"x\"", "null").get(own.nextInt(5)));
        }
        if (chance(50)) {
            Collections.shuffle(members, own);
        }
        return "{" + String.join(",", members) + "}";
    }

    private String list(List<String> items) {
        return "[" + blank() + String.join("," + blank(), items) + blank() + "]";
    }

    private String print(Kind k, int depth) {
        if (k.name != null && !printed.add(k.name)) {
            return chance(80) ? quote(k.name) : object(List.of("type", quote(k.name)));
        }
        switch (k.what) {
            case "array":
                return object(List.of("type", "\"array\"", "items", print(k.parts.get(0), depth + 1)));
            case "map":
                return object(List.of("type", "\"map\"", "values", print(k.parts.get(0), depth + 1)));
            case "union":
                return union(k, depth);
            case "fixed":
                return object(List.of("type", "\"fixed\"", "name", quote(k.name), "size", "" + k.size));
            case "enum":
                List<String> symbols = new ArrayList<>();
                k.symbols.forEach(s -> symbols.add(quote(s)));
                List<String> all = new ArrayList<>(List.of("type", "\"enum\"", "name", quote(k.name), "symbols", list(symbols)));
                if (k.fallback != null) {
                    all.add("default");
                    all.add(quote(k.fallback));
                }
                return object(all);
            case "record":
                return record(k, depth);
            default:
                return chance(90) ? quote(k.what) : object(List.of("type", quote(k.what)));
        }
    }

    private String union(Kind k, int depth) {
        List<String> parts = new ArrayList<>();
        Set<String> seen = new LinkedHashSet<>();
        for (Kind part : k.parts) {
            String like = part.name != null ? part.name : part.what;
            boolean fine = !like.equals("union") && seen.add(like);
            if (fine || chance(2)) {
                parts.add(print(part, depth + 1));
            }
        }
        return list(parts);
    }

    private String record(Kind k, int depth) {
        List<String> fields = new ArrayList<>();
        for (int i = 0; i < k.fields.size(); i++) {
            List<String> all = new ArrayList<>(List.of("name", quote(k.fields.get(i))));
            Kind type = k.parts.get(i);
            all.add("type");
            all.add(print(type, depth + 1));
            if (chance(45)) {
                String value = value(type, 0);
                if (value != null) {
                    all.add("default");
                    all.add(value);
                }
            }
            fields.add(object(all));
        }
        return object(List.of("type", "\"record\"", "name", quote(k.name), "fields", list(fields)));
    }

    private String letters() {
        StringBuilder b = new StringBuilder();
        for (int n = own.nextInt(6); n > 0; n--) {
            b.append((char) (chance(80) ? 'a' + own.nextInt(26) : own.nextInt(256)));
        }
        return b.toString();
    }

    /** A value that fits, mostly; null when it would be too deep. */
    private String value(Kind k, int depth) {
        if (depth > 8 || --steps < 0) {
            return null;
        }
        if (chance(1)) {
            return List.of("null", "1", "\"\"", "{}", "[]", "true", "3000000000").get(own.nextInt(7));
        }
        List<String> all = new ArrayList<>();
        switch (k.what) {
            case "null":
                return "null";
            case "boolean":
                return chance(50) ? "true" : "false";
            case "int":
                return "" + (chance(50) ? own.nextInt(200) - 100 : own.nextInt());
            case "long":
                return "" + (chance(50) ? own.nextInt(200) - 100 : own.nextLong() >> own.nextInt(64));
            case "bytes":
            case "string":
                return quote(letters());
            case "fixed":
                return quote("\u00fexyzabc\"d".repeat(9).substring(0, Math.max(0, k.size)));
            case "enum":
                return quote(k.symbols.get(own.nextInt(k.symbols.size())));
            case "union":
                return value(k.parts.get(0), depth + 1);
            case "array":
                for (int n = own.nextInt(4); n > 0; n--) {
                    all.add(value(k.parts.get(0), depth + 1));
                }
                return all.contains(null) ? null : list(all);
            case "map":
                for (int n = own.nextInt(4); n > 0; n--) {
                    all.add(chance(98) ? n + letters() : "k");
                    all.add(value(k.parts.get(0), depth + 1));
                }
                return all.contains(null) ? null : object(all);
            default:
                for (int i = 0; i < k.fields.size(); i++) {
                    all.add(k.fields.get(i));
                    all.add(value(k.parts.get(i), depth + 1));
                }
                return all.contains(null) ? null : object(all);
        }
    }

    // ---- rows

    byte[] rows(Model.Node n) {
        ByteArrayOutputStream b = new ByteArrayOutputStream();
        steps = 20000;
        for (int k = 1 + own.nextInt(5); k > 0; k--) {
            datum(b, n, 0);
        }
        byte[] all = b.toByteArray();
        if (all.length > 3000) {
            all = java.util.Arrays.copyOf(all, 3000);
        }
        if (all.length > 0 && chance(25)) {
            int i = own.nextInt(all.length);
            if (chance(40)) {
                all = java.util.Arrays.copyOf(all, i);
            } else {
                all[i] = (byte) (chance(50) ? own.nextInt(6) : own.nextInt(256));
            }
        }
        return all;
    }

    private void varint(ByteArrayOutputStream b, long v) {
        long rest = v << 1 ^ v >> 63;
        int extra = chance(4) ? own.nextInt(10) : 0;
        for (int k = 1; rest >>> 7 != 0 || extra > 0 && k < 10; k++, extra--) {
            b.write((int) (rest & 127 | 128));
            rest >>>= 7;
        }
        b.write((int) rest);
    }

    private void counted(ByteArrayOutputStream b) {
        byte[] s = letters().getBytes(java.nio.charset.StandardCharsets.ISO_8859_1);
        varint(b, s.length);
        b.writeBytes(s);
    }

    private void datum(ByteArrayOutputStream b, Model.Node n, int depth) {
        if (depth > 40 || b.size() > 5000 || --steps < 0) {
            return;
        }
        switch (n.kind) {
            case "null":
                break;
            case "boolean":
                b.write(own.nextInt(2));
                break;
            case "int":
                varint(b, chance(50) ? own.nextInt(200) - 100 : chance(99) ? own.nextInt() : own.nextLong());
                break;
            case "long":
                varint(b, chance(50) ? own.nextInt(200) - 100 : own.nextLong() >> own.nextInt(64));
                break;
            case "bytes":
            case "string":
                counted(b);
                break;
            case "fixed":
                b.writeBytes(new byte[n.size]);
                break;
            case "enum":
                varint(b, chance(99) ? own.nextInt(n.symbols.size()) : own.nextInt(40) - 3);
                break;
            case "union":
                int k = depth > 12 ? 0 : own.nextInt(n.branches.size());
                varint(b, chance(99) ? k : own.nextInt(20) - 3);
                datum(b, n.branches.get(k), depth + 1);
                break;
            case "record":
                n.fields.forEach(f -> datum(b, f.type, depth + 1));
                break;
            default:
                blocks(b, n, depth);
        }
    }

    private void blocks(ByteArrayOutputStream b, Model.Node n, int depth) {
        for (int more = depth > 12 ? 0 : own.nextInt(3); more > 0; more--) {
            int count = 1 + own.nextInt(chance(2) ? 900 : 3);
            ByteArrayOutputStream items = new ByteArrayOutputStream();
            for (int k = 0; k < count; k++) {
                if (n.is("map")) {
                    counted(items);
                }
                datum(items, n.item, depth + 1);
            }
            if (chance(70)) {
                varint(b, count);
            } else {
                varint(b, -count);
                varint(b, chance(96) ? items.size() : own.nextInt(20) - 5);
            }
            b.writeBytes(items.toByteArray());
        }
        varint(b, 0);
    }
}
