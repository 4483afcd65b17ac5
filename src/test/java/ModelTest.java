import java.nio.charset.StandardCharsets;
import java.util.Random;
import java.util.concurrent.Callable;

/** Holds the program against Model on many runs of calls; a number as argument tells how many. */
public final class ModelTest {
    private static final int MOST_CALLS = 512;

    private static int wrong = 0;
    private static final java.util.TreeMap<String, Integer> met = new java.util.TreeMap<>();

    private final RecordTeller program = new RecordTeller();
    private final Model model = new Model();
    private final StringBuilder story = new StringBuilder();
    private int calls = 0;
    private boolean apart = false;

    public static void main(String[] args) {
        int runs = args.length > 0 ? Integer.parseInt(args[0]) : 4000;
        int first = args.length > 1 ? Integer.parseInt(args[1]) : 0;
        for (int k = first; k < first + runs && wrong < 5; k++) {
            new ModelTest().run(k);
        }
        if (args.length > 0) {
            met.forEach((what, times) -> System.out.println(what + ": " + times));
        }
        System.out.println(wrong == 0 ? "model and program agree" : wrong + " runs are not as the model has them");
        System.exit(wrong == 0 ? 0 : 1);
    }

    private static Object answer(Callable<Object> call) {
        try {
            return call.call();
        } catch (Exception e) {
            return "throws." + e.getClass().getSimpleName();
        }
    }

    private Object both(String what, Callable<Object> ofProgram, Callable<Object> ofModel) {
        calls++;
        Object got = answer(ofProgram);
        Object due = answer(ofModel);
        story.append(what).append(" -> ").append(got).append('\n');
        if (!got.equals(due) && !apart) {
            apart = true;
            wrong++;
            System.out.println(story + "due is " + due);
        }
        if (due instanceof Integer && (Integer) due > 0 && !what.startsWith("schema")) {
            due = "above 0";
        }
        met.merge(what.replaceAll("(?s)[ (].*", "") + " " + due, 1, Integer::sum);
        return got;
    }

    private void put(byte[] bytes) {
        both("end(0)", () -> {
            program.end(0);
            return "";
        }, () -> {
            model.end(0);
            return "";
        });
        for (int i = 0; i < bytes.length; i += 20) {
            int[] n = new int[5];
            for (int k = 0; k < 20; k++) {
                n[k / 4] = n[k / 4] << 8 | (i + k < bytes.length ? bytes[i + k] & 255 : 32);
            }
            if (answer(() -> program.feed(n[0], n[1], n[2], n[3], n[4])).equals(answer(() -> model.feed(n)))) {
                calls++;
            }
        }
        both("end " + bytes.length + " " + new String(bytes, StandardCharsets.ISO_8859_1), () -> {
            program.end(bytes.length);
            return "";
        }, () -> {
            model.end(bytes.length);
            return "";
        });
    }

    private int smallPlace(Random r) {
        return r.nextInt(40) == 0 ? r.nextInt(12) - 2 : r.nextInt(4);
    }

    private void run(int number) {
        Random r = new Random(number * 7919L);
        Gen gen = new Gen(r.nextLong(), r);
        while (calls < MOST_CALLS - 150 && !apart) {
            int p = smallPlace(r);
            int q = smallPlace(r);
            int pick = r.nextInt(10);
            if (pick < 3) {
                byte[] text = gen.schema().getBytes(StandardCharsets.ISO_8859_1);
                if (text.length < 2000) {
                    put(text);
                    both("schema(" + p + ")", () -> program.schema(p), () -> model.schema(p));
                }
            } else if (pick < 5 && p >= 0 && p < 8 && model.kept[p] != null) {
                put(gen.rows(model.kept[p]));
                both("load(" + p + ")", () -> program.load(p), () -> model.load(p));
            } else if (pick < 7) {
                int i = r.nextInt(6) - 1;
                both("read(" + p + "," + i + ")", () -> program.read(p, i), () -> model.read(p, i));
            } else if (pick < 8) {
                both("all(" + p + ")", () -> program.all(p), () -> model.all(p));
            } else {
                both("fits(" + p + "," + q + ")", () -> program.fits(p, q), () -> model.fits(p, q));
            }
            lookRound(r);
        }
    }

    private void lookRound(Random r) {
        both("place()", program::place, model::place);
        both("rows()", program::rows, model::rows);
        for (int what = 0; what < 2; what++) {
            int w = what;
            both("size(" + what + ")", () -> program.size(w), () -> model.size(w));
            int size = model.size(w);
            for (int i = 0; i < size; i++) {
                int k = i;
                if (program.letter(k, w) != model.letter(k, w)) {
                    both("letter(" + k + "," + w + ")", () -> program.letter(k, w), () -> model.letter(k, w));
                }
            }
        }
        int w = r.nextInt(5) - 1;
        int i = r.nextInt(30) - 2;
        both("letter(" + i + "," + w + ")", () -> program.letter(i, w), () -> model.letter(i, w));
    }
}
