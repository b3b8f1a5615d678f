import java.util.function.Supplier;

/** Objects that have something of everything, made by the same calls each time. */
final class States {
    static final int NONE = RidgeClaps.NONE;
    static final int MIN = Integer.MIN_VALUE, MAX = Integer.MAX_VALUE;
    /** MET and STRUCK behind each of three MINUTES from the image of rich. */
    private static final int[] RICH_ROW = {303, 0, 771, 0, 2255, 0};
    static final Supplier<RidgeClaps> NEW = RidgeClaps::new;
    static final Supplier<RidgeClaps> RICH = States::rich;
    static final Supplier<RidgeClaps> UNTOLD = States::untold;
    static final Supplier<RidgeClaps> CROWDED = States::crowded;
    static final Supplier<RidgeClaps> LATE = States::late;
    static final Supplier<RidgeClaps> NOWHERE = States::nowhere;

    private States() {
    }

    /**
     * Seven PLACES (1 and 6 with DOWN), THE PARTY at PLACE 3, three TEXTS in the image and four as it is;
     * SHEETS: 5 shorts, 6 floats, 0 floats, MISSING; SLOTS: nothing, PLACE, SHEET, number, SHEET without places;
     * 6 numbers wait that are right; 24 bytes on THE TAPE.
     */
    static RidgeClaps rich() {
        RidgeClaps x = untold();
        for (int v : RICH_ROW) {
            x.tell(v);
        }
        return x;
    }

    /** As rich, but no numbers wait. */
    static RidgeClaps untold() {
        RidgeClaps x = new RidgeClaps();
        x.seed(4711);
        int[][] places = {{0, 50}, {1, 90}, {3, 99}, {2, 40}, {4, 41}, {5, 30}, {0, 7}};
        for (int[] p : places) {
            x.place(p[0], p[1]);
        }
        x.set(1, 2, 1);
        x.set(6, 2, 1);
        Due.text(x, "risk h/10+n");
        Due.text(x, "odds 90-d");
        Due.text(x, "turn f<30&n>2");
        x.storm(0, 40);
        x.storm(1, 1);
        x.come(3);
        x.step(2);
        fill(x, 0, 0, 30, 29, -7, 100, 3);
        fill(x, 1, 1, 90, NONE, 84, 500, -1, NONE);
        fill(x, 2, 1);
        x.lay(1, 1, 2);
        x.lay(2, 2, 1);
        x.lay(3, 3, -11);
        x.lay(4, 2, 2);
        x.keep();
        x.set(0, 1, 51);
        x.turns(6, 1);
        x.storm(0, 35);
        x.storm(1, -2);
        Due.text(x, "odds 95-d*2");
        x.come(2);
        x.step(0);
        x.feed(four("risk"), four(" h+3"), four("*n-1"));
        x.feed(four("+(n*"), four("2)/9"), four("  -3"));
        return x;
    }

    /** As rich, with 24 PLACES, 14 TEXTS, 60 numbers that wait, 96 bytes: nothing more has room. */
    static RidgeClaps crowded() {
        RidgeClaps x = rich();
        x.deal(24);
        x.trim(0);
        for (int i = 4; i < 14; i++) {
            Due.text(x, "odds " + (20 + i));
        }
        for (int i = 6; i < 60; i++) {
            x.tell(i);
        }
        for (int i = 0; i < 8; i++) {
            x.feed(four("risk"), four(" 17 "), four("    "));
        }
        return x;
    }

    /** As rich, with THE PARTY at PLACE 1 (with DOWN), in THE MINUTE 9999. */
    static RidgeClaps late() {
        RidgeClaps x = rich();
        x.come(NONE);
        runTo(x, 9999);
        x.come(1);
        return x;
    }

    static RidgeClaps nowhere() {
        RidgeClaps x = rich();
        x.come(NONE);
        return x;
    }

    static void runTo(RidgeClaps x, int minute) {
        int left = minute - x.count(2);
        while (left > 0) {
            left -= x.run(Math.min(60, left));
        }
    }

    /** PLACES of KIND 0, THE STORM right here and still: ODDS are 100, RISKS a tenth of the heights. */
    static RidgeClaps flat(int... heights) {
        RidgeClaps x = new RidgeClaps();
        for (int height : heights) {
            x.place(0, height);
        }
        x.storm(0, 0);
        x.storm(1, 0);
        return x;
    }

    /** As flat, with RISKS that are the heights. */
    static RidgeClaps risks(int... heights) {
        RidgeClaps x = flat(heights);
        Due.text(x, "risk h");
        return x;
    }

    static RidgeClaps fill(RidgeClaps x, int sheet, int sort, int... values) {
        x.sheet(sheet, sort, values.length);
        for (int i = 0; i < values.length; i++) {
            x.mark(sheet, i, values[i]);
        }
        return x;
    }

    static int four(String signs) {
        int v = 0;
        for (int i = 0; i < 4; i++) {
            v = v << 8 | signs.charAt(i) & 255;
        }
        return v;
    }
}
