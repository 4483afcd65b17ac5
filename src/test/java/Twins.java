import java.util.concurrent.Callable;
import java.util.function.Consumer;
import java.util.function.Function;

/** Two objects with the same past: one is asked what it may not change by, and must answer all that follows as the other does. */
final class Twins {
    /** Keeps a schema of one byte here, by which the tape's bytes can be looked at. */
    static final int BYTES = 7;
    private static final int PLACES = 8;

    private final String what;
    private final Check asked = new Check();
    private final Check other = new Check();

    private Twins(String what, Consumer<Check> past) {
        this.what = what;
        past.accept(asked);
        past.accept(other);
    }

    /** A call that answers so, and changes nothing at all. */
    static void unchanged(String what, Consumer<Check> past, Function<Check, Object> call, Object due) {
        compare(what, past, call, due, true);
    }

    /** A call that answers so, and changes nothing but place(). */
    static void unchangedButPlace(String what, Consumer<Check> past, Function<Check, Object> call, Object due) {
        compare(what, past, call, due, false);
    }

    private static void compare(String what, Consumer<Check> past, Function<Check, Object> call, Object due, boolean withPlace) {
        // What is looked at changes the object itself: so it is looked at from either end, with new twins.
        for (int way = 0; way < 2; way++) {
            Twins twins = new Twins(what, past);
            Check.due(what, Check.answer(() -> call.apply(twins.asked)), due);
            if (withPlace) {
                twins.same("place", c -> c.teller.place());
            }
            twins.plain();
            if (way == 0) {
                twins.told();
                twins.tape();
            } else {
                twins.tape();
                twins.told();
                twins.kept();
            }
        }
    }

    private void same(String question, Function<Check, Object> call) {
        Callable<Object> ofAsked = () -> call.apply(asked);
        Callable<Object> ofOther = () -> call.apply(other);
        Check.due(what + ": then " + question, Check.answer(ofAsked), Check.answer(ofOther));
    }

    private void plain() {
        same("rows", c -> c.teller.rows());
        same("all rows' bytes", c -> c.letters(0));
        same("OUT", c -> c.letters(1));
        same("the tape's length", Check::tapeLength);
    }

    private void told() {
        for (int p = 0; p < PLACES; p++) {
            int place = p;
            for (int q = 0; q < PLACES; q++) {
                int r = q;
                same("fits(" + place + "," + r + ")", c -> c.teller.fits(place, r));
            }
            same("all(" + place + ")", c -> c.teller.all(place));
            same("OUT behind all", c -> c.letters(1));
            for (int i = 0; i < 4; i++) {
                int row = i;
                same("read(" + place + "," + row + ")", c -> c.teller.read(place, row));
                same("OUT behind read", c -> c.letters(1));
            }
        }
    }

    /** The tape's bytes, as rows. */
    private void tape() {
        same("the tape", c -> c.teller.load(BYTES));
        same("its rows", c -> c.teller.rows());
        same("its bytes", c -> c.letters(0));
    }

    /** Each place's schema, by rows of it. */
    private void kept() {
        for (int p = 0; p < PLACES; p++) {
            int place = p;
            same("load(" + place + ")", c -> c.load(place, 2, 2, 65, 0, 0));
            same("its rows", c -> c.letters(0));
            same("place " + place + " anew", c -> c.schema(place, "\"boolean\""));
            same("rows behind it", c -> c.teller.rows());
        }
    }
}
