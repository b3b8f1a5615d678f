import java.util.ArrayList;
import java.util.List;
import java.util.function.Supplier;

/**
 * All that can be asked of an object, as one row. It is asked in parts, each of an object made anew,
 * since asking may change it (a tape is used up) and an object is good for 512 calls alone.
 */
final class Whole {
    private static final int NONE = RidgeClaps.NONE;

    private Whole() {
    }

    static List<Integer> of(Supplier<RidgeClaps> made) {
        List<Integer> row = new ArrayList<>();
        counts(made.get(), row);
        laws(made.get(), row);
        slots(made.get(), row);
        sheets(made.get(), row);
        tape(made, row);
        waiting(made, row);
        RidgeClaps back = made.get();
        row.add(back.back());
        counts(back, row);
        back = made.get();
        back.back();
        laws(back, row);
        return row;
    }

    private static void counts(RidgeClaps x, List<Integer> row) {
        for (int what = 0; what <= 10; what++) {
            row.add(x.count(what));
        }
        for (int place = 0; place < 24; place++) {
            for (int what = 0; what < 3; what++) {
                row.add(x.told(place, what));
            }
        }
        for (int key = 0; key < 3; key++) {
            row.add(x.why(key));
        }
        for (int text = 0; text < 14; text++) {
            row.add(x.textTold(text, 0));
            row.add(x.textTold(text, 1));
        }
    }

    /** What the texts that count give, here and there. */
    private static void laws(RidgeClaps x, List<Integer> row) {
        for (int place = 0; place < 24; place++) {
            row.add(x.told(place, 3));
            row.add(x.rule(place, 7, 0));
        }
        for (int t = 0; t <= 60; t += 5) {
            row.add(x.sky(t, 1));
        }
    }

    private static void slots(RidgeClaps x, List<Integer> row) {
        for (int slot = 0; slot < 5; slot++) {
            for (int kind = 0; kind < 6; kind++) {
                row.add(x.ask(slot, kind));
            }
            for (int place = 0; place <= 24; place++) {
                row.add(x.item(slot, place));
            }
            row.add(x.rest(slot, Integer.MIN_VALUE));
            row.add(x.rest(slot, Integer.MAX_VALUE));
        }
    }

    private static void sheets(RidgeClaps x, List<Integer> row) {
        for (int sheet = 0; sheet < 4; sheet++) {
            for (int other = 0; other < 4; other++) {
                row.add(x.copy(sheet, 0, other, 0, 0));
            }
        }
        for (int sheet = 0; sheet < 4; sheet++) {
            x.lay(0, 0, 0);
            x.lay(0, 2, sheet);
            for (int place = 0; place <= 24; place++) {
                row.add(x.item(0, place));
            }
            row.add(x.mark(sheet, 0, NONE));
        }
    }

    /** Its bytes are seen by where a text of the first n of them has its fault, and by what it gives. */
    private static void tape(Supplier<RidgeClaps> made, List<Integer> row) {
        int length = made.get().count(9);
        for (int n = 0; n <= length; n++) {
            RidgeClaps x = made.get();
            x.trim(n);
            row.add(x.text());
            row.add(x.told(0, 3));
            row.add(x.sky(1, 1));
        }
    }

    private static void waiting(Supplier<RidgeClaps> made, List<Integer> row) {
        for (int n = 1; n <= 30; n += 1) {
            row.add(made.get().check(n));
        }
    }
}
