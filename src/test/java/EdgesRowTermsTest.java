/** The boundary cases of the terms, part 3 (claps) and part 5 (sheets, slots and images). */
public final class EdgesRowTermsTest {
    private static final int BAD = RidgeClaps.BAD, NONE = RidgeClaps.NONE, NOTHING = RidgeClaps.NOTHING;
    private static final int KIND = RidgeClaps.KIND, INDEX = RidgeClaps.INDEX, SIZE = RidgeClaps.SIZE;
    private static final Edges edges = new Edges("EdgesRowTermsTest");

    public static void main(String[] args) {
        counts();
        comes();
        explained();
        explainedHeld();
        leastPace();
        sheets();
        slots();
        findings();
        image();
        minutesTold();
        edges.end();
    }

    // ---- part 3

    private static RidgeClaps floats(int... values) {
        return States.fill(new RidgeClaps(), 0, 1, values);
    }

    private static void counts() {
        edges.ofTerms(3, "3 CLAPS are counts of seconds on a SHEET (its places that are numbers).");
        edges.is("no number ahead", floats(NONE, 9).claps(0, 0), 3);
        edges.is("no number behind", floats(9, NONE).claps(0, 0), 3);
        edges.is("no number alone", floats(NONE).claps(0, 0), NONE);
        edges.is("no places", floats().claps(0, 0), NONE);
        edges.ofTerms(3, "HOW FAR: the last of them, by 3 (cut).");
        int[][] due = {{0, 0}, {1, 0}, {2, 0}, {3, 1}, {5, 1}, {6, 2}, {-1, 0}, {-2, 0}, {-3, -1}, {-5, -1}, {299, 99}, {300, 100}, {99999, 33333}, {-99999, -33333}};
        for (int[] d : due) {
            edges.is("the last is " + d[0], floats(50, d[0], NONE).claps(0, 0), d[1]);
        }
        edges.is("the 24th", lastOf24(), 4);
    }

    private static int lastOf24() {
        int[] values = new int[24];
        values[23] = 12;
        return floats(values).claps(0, 0);
    }

    private static void comes() {
        edges.ofTerms(3, "COMES: how many of them are less than the one ahead of them among these, less how many are more.");
        edges.is("one alone", floats(5).claps(0, 1), 0);
        edges.is("less", floats(5, 4).claps(0, 1), 1);
        edges.is("more", floats(5, 6).claps(0, 1), -1);
        edges.is("the same", floats(5, 5).claps(0, 1), 0);
        edges.is("less and more", floats(5, 4, 5).claps(0, 1), 0);
        edges.is("less over no number", floats(5, NONE, 4).claps(0, 1), 1);
        edges.is("no number at the ends", floats(NONE, 5, 4, NONE).claps(0, 1), 1);
        edges.is("below 0", floats(0, -1).claps(0, 1), 1);
        edges.is("by the one ahead, not by the first", floats(5, 9, 8).claps(0, 1), 0);
        int[] falls = new int[24];
        int[] rises = new int[24];
        for (int i = 0; i < 24; i++) {
            falls[i] = 99 - i;
            rises[i] = i;
        }
        edges.is("24 that fall", floats(falls).claps(0, 1), 23);
        edges.is("24 that rise", floats(rises).claps(0, 1), -23);
    }

    private static void explained() {
        edges.ofTerms(3, "EXPLAINED by a PACE -9 .. 9, f being the first of them by 3 (cut):");
        for (int pace = -9; pace <= 9; pace++) {
            edges.is("PACE " + pace, floats(150, 150 - 3 * pace).claps(0, 2), pace);
        }
        edges.is("faster than 9", floats(150, 150 - 3 * 10).claps(0, 2), 9);
        edges.is("faster than 9: the rest is left", floats(150, 150 - 3 * 10).claps(0, 3), 3);
        edges.is("faster than -9", floats(150, 150 + 3 * 10).claps(0, 2), -9);
        edges.is("faster than -9: the rest is left", floats(150, 150 + 3 * 10).claps(0, 3), 3);
        edges.is("f is cut", floats(152, 150, 150, 150).claps(0, 3), 2);
        edges.is("f is cut: PACE", floats(152, 150, 150, 150).claps(0, 2), 0);
        edges.is("f is cut towards 0", floats(-1, 27).claps(0, 3), 1);
        edges.is("f is cut towards 0: PACE", floats(-2, 12).claps(0, 2), -4);
        edges.ofTerms(3, "the differences (signs left out) of each of them (the first, too), on place k, the first one being on place j, and 3 times (f less PACE times (k less j), held within 0 .. 99), together;");
        edges.is("the first, too", floats(31).claps(0, 3), 1);
        edges.is("above and below are not taken up", floats(60, 62, 58).claps(0, 3), 4);
        edges.is("above and below: PACE", floats(60, 62, 58).claps(0, 2), 0);
        edges.is("k counts places, not claps", floats(90, NONE, NONE, 81).claps(0, 2), 1);
        edges.is("k counts from j", floats(NONE, NONE, 90, 87).claps(0, 2), 1);
        edges.is("k counts from j: differences", floats(NONE, NONE, 90, 87).claps(0, 3), 0);
        edges.is("the last place of 24", farApart(), 0);
    }

    /** 23 places apart, PACE 4: from 297 down to 297 - 3 * 92. */
    private static int farApart() {
        int[] values = new int[24];
        java.util.Arrays.fill(values, NONE);
        values[0] = 297;
        values[23] = 21;
        RidgeClaps x = floats(values);
        return x.claps(0, 2) == 4 ? x.claps(0, 3) : -1;
    }

    private static void explainedHeld() {
        edges.ofTerms(3, "3 times (f less PACE times (k less j), held within 0 .. 99)");
        edges.is("the first is 297", floats(297).claps(0, 3), 0);
        edges.is("the first is 300", floats(300).claps(0, 3), 3);
        edges.is("the first is -3", floats(-3).claps(0, 3), 3);
        edges.is("the first is 0", floats(0).claps(0, 3), 0);
        edges.is("below 0 by PACE", floats(3, 0, 0).claps(0, 2), 1);
        edges.is("below 0 by PACE: held", floats(3, 0, 0).claps(0, 3), 0);
        edges.is("above 99 by PACE", floats(294, 297, 297).claps(0, 2), -9);
        edges.is("above 99 by PACE: held", floats(294, 297, 297).claps(0, 3), 0);
        // f is -10: two places on PACE -9 gives 8, so 24 (were f held first, it would be 18, so 54).
        edges.is("f itself is not held below", floats(-30, NONE, 24).claps(0, 3), 30);
        edges.is("f itself is not held below: PACE", floats(-30, NONE, 24).claps(0, 2), -9);
        // f is 110: two places on PACE 9 gives 92, so 276 (were f held first, it would be 81, so 243).
        edges.is("f itself is not held above", floats(330, NONE, 276).claps(0, 3), 33);
        edges.is("f itself is not held above: PACE", floats(330, NONE, 276).claps(0, 2), 9);
    }

    private static void leastPace() {
        edges.ofTerms(3, "the PACE with the least; of several the least PACE.");
        edges.is("one clap: all", floats(30).claps(0, 2), -9);
        edges.is("0 from 5 on: 5 .. 9", floats(15, 0).claps(0, 2), 5);
        edges.is("99 from -3 on: -9 .. -3", floats(288, 297).claps(0, 2), -9);
        edges.is("between two: 1 and 2", floats(78, 72, NONE, 66, 60).claps(0, 2), 1);
        edges.is("between two: -1 and 0", floats(30, NONE, 33).claps(0, 2), -1);
        edges.is("between two: -1 and 0, differences", floats(30, NONE, 33).claps(0, 3), 3);
        edges.is("between two: 0 and 1", floats(30, NONE, 27).claps(0, 2), 0);
        edges.is("the least, not the one nearest to 0", floats(30, NONE, 39).claps(0, 2), -2);
        edges.is("less by one", floats(30, NONE, 34).claps(0, 2), -1);
        edges.is("less by one, the other way", floats(30, NONE, 32).claps(0, 2), 0);
    }

    // ---- part 5

    private static void sheets() {
        edges.ofTerms(5, "5 SHEETS 0 .. 3 are rows of shorts (sort 0) or floats (1; whole numbers), with 0 to 24 places, or MISSING (at first).");
        for (int sheet = 0; sheet < 4; sheet++) {
            int each = sheet;
            edges.refused("sheet " + sheet + " is missing at first", States.NEW, x -> x.pour(each), NOTHING);
            edges.is("sheet " + sheet + " of 0 places", new RidgeClaps().sheet(sheet, 0, 0), 0);
            edges.is("sheet " + sheet + " of 24 places", new RidgeClaps().sheet(sheet, 1, 24), 24);
            edges.refused("sheet " + sheet + " of 25 places", States.RICH, x -> x.sheet(each, 0, 25), BAD);
        }
        edges.refused("sheet -1", States.RICH, x -> x.sheet(-1, 0, 1), BAD);
        edges.refused("sheet 4", States.RICH, x -> x.sheet(4, 0, 1), BAD);
        edges.ofTerms(5, "A place of floats may be NO NUMBER.");
        edges.is("of floats", floats(5).mark(0, 0, NONE), 1);
        edges.is("of shorts not", States.fill(new RidgeClaps(), 0, 0, 5).mark(0, 0, NONE), KIND);
    }

    private static void slots() {
        edges.ofTerms(5, "SLOTS 0 .. 4 each hold nothing (at first), a PLACE (as it is then, for good), a SHEET (a row of its own, as it was then), or a number.");
        for (int slot = 0; slot < 5; slot++) {
            edges.is("slot " + slot + " holds nothing at first", new RidgeClaps().lay(slot, 3, 1), 0);
        }
        edges.refused("slot -1", States.RICH, x -> x.lay(-1, 0, 0), BAD);
        edges.refused("slot 5", States.RICH, x -> x.lay(5, 0, 0), BAD);
        RidgeClaps x = States.fill(States.flat(40, 50), 0, 1, 7, 8, NONE);
        x.keep();
        x.lay(0, 1, 0);
        x.lay(1, 2, 0);
        x.set(0, 1, 41);
        edges.is("a place, its height as it was then", x.ask(0, 0), 40);
        x.turns(0, 5);
        edges.is("a place, its kind as it was then", x.ask(0, 5), KIND);
        x.back();
        x.set(0, 1, 45);
        edges.is("a place, for good", x.ask(0, 0), 40);
        x.mark(0, 0, 9);
        edges.is("a sheet, its number as it was then", x.item(1, 0), 7);
        x.mark(0, 2, 9);
        edges.is("a sheet, no number as it was then", x.item(1, 2), KIND);
        x.sheet(0, 0, 1);
        edges.is("a sheet, its places as they were then", x.item(1, 1), 8);
        x.sheet(0, -1, 0);
        edges.is("a sheet, though it is missing now", x.item(1, 1), 8);
        x.sheet(0, 1, 3);
        x.lay(2, 2, 0);
        x.copy(0, 0, 0, 0, 3);
        edges.is("two slots have rows of their own", x.item(1, 1), 8);
        edges.is("the other one has the new row", x.item(2, 1), 0);
        RidgeClaps gone = new RidgeClaps();
        gone.keep();
        gone.place(1, 30);
        gone.lay(0, 1, 0);
        gone.back();
        edges.is("a place that is no more", gone.ask(0, 1), 37);
    }

    private static void findings() {
        edges.ofTerms(5, "FINDINGS: NOTHING: a SHEET is MISSING, a SLOT holds nothing; INDEX: there is no such place; SIZE: a number of places is below 0; KIND: it is none (of a KIND, a number, or another thing).");
        edges.refused("a sheet is missing: mark", States.RICH, x -> x.mark(3, 0, 0), NOTHING);
        edges.refused("a sheet is missing: pour", States.RICH, x -> x.pour(3), NOTHING);
        edges.refused("a sheet is missing: reads", States.RICH, x -> x.reads(3), NOTHING);
        edges.refused("a sheet is missing: copy from", States.RICH, x -> x.copy(3, 0, 0, 0, 0), NOTHING);
        edges.refused("a sheet is missing: copy to", States.RICH, x -> x.copy(0, 0, 3, 0, 0), NOTHING);
        edges.refused("a sheet is missing: lay", States.RICH, x -> x.lay(0, 2, 3), NOTHING);
        edges.refused("a sheet is missing: claps", States.RICH, x -> x.claps(3, 0), NOTHING);
        edges.refused("a sheet is missing: hear", States.RICH, x -> x.hear(3), NOTHING);
        edges.refused("a slot holds nothing: ask", States.RICH, x -> x.ask(0, 0), NOTHING);
        edges.refused("a slot holds nothing: item", States.RICH, x -> x.item(0, 0), NOTHING);
        edges.refused("a slot holds nothing: rest", States.RICH, x -> x.rest(0, 1), NOTHING);
        edges.refused("no such place: mark", States.RICH, x -> x.mark(0, 5, 0), INDEX);
        edges.refused("no such place: copy", States.RICH, x -> x.copy(0, 5, 0, 0, 1), INDEX);
        edges.refused("no such place: item", States.RICH, x -> x.item(2, 6), INDEX);
        edges.refused("a number of places below 0", States.RICH, x -> x.sheet(0, 0, -1), SIZE);
        edges.refused("none of a KIND: as", States.RICH, x -> x.as(0, 1), KIND);
        edges.refused("none of a KIND: ask", States.RICH, x -> x.ask(1, 2), KIND);
        edges.refused("no number: mark", States.RICH, x -> x.mark(0, 0, NONE), KIND);
        edges.refused("no number: item", States.RICH, x -> x.item(2, 1), KIND);
        edges.refused("no number: rest", States.RICH, x -> x.rest(2, 1), KIND);
        edges.refused("another thing: item", States.RICH, x -> x.item(1, 0), KIND);
        edges.refused("another thing: ask", States.RICH, x -> x.ask(2, 0), KIND);
        edges.refused("another thing: copy", States.RICH, x -> x.copy(0, 0, 1, 0, 1), KIND);
    }

    private static void image() {
        edges.ofTerms(5, "AN IMAGE keeps all but SHEETS, SLOTS, numbers that wait, THE TAPE; all can become as it is (again and again).");
        edges.same("sheets, slots, numbers that wait, the tape stay", () -> {
            RidgeClaps x = States.rich();
            x.keep();
            x.sheet(0, 1, 2);
            x.mark(0, 1, NONE);
            x.sheet(3, 0, 4);
            x.lay(0, 3, 99);
            x.lay(1, 2, 0);
            x.trim(9);
            x.tell(1100);
            x.back();
            return x;
        }, () -> {
            RidgeClaps x = States.rich();
            x.sheet(0, 1, 2);
            x.mark(0, 1, NONE);
            x.sheet(3, 0, 4);
            x.lay(0, 3, 99);
            x.lay(1, 2, 0);
            x.trim(9);
            x.tell(1100);
            x.keep();
            return x;
        });
        RidgeClaps crowd = crowd();
        crowd.back();
        edges.is("the KIND of place 23", crowd.told(23, 0), 5);
        edges.is("the HEIGHT of place 23", crowd.told(23, 1), 77);
        edges.is("DOWN of place 23", crowd.told(23, 2), 1);
        edges.is("the 14th text counts behind it", crowd.sky(0, 1), 7);
        edges.is("the 14th text counts in the minutes told", toldNow(crowd(), 27 * 7, 0), 0);
        edges.same("again and again", () -> {
            RidgeClaps x = States.rich();
            for (int i = 0; i < 3; i++) {
                x.back();
                x.run(7);
                x.deal(3);
                x.set(0, 1, i);
                x.turns(1, 5);
            }
            x.back();
            return x;
        }, () -> {
            RidgeClaps x = States.rich();
            x.back();
            return x;
        });
        edges.same("changes behind the image are not in it", () -> {
            RidgeClaps x = States.rich();
            x.run(7);
            x.deal(3);
            x.set(0, 1, 1);
            x.set(0, 2, 1);
            x.turns(1, 5);
            x.back();
            return x;
        }, () -> {
            RidgeClaps x = States.rich();
            x.back();
            return x;
        });
    }

    /** 24 PLACES and 14 TEXTS in the image, THE PARTY at PLACE 23 there, which is otherwise by now. */
    private static RidgeClaps crowd() {
        RidgeClaps x = States.flat(new int[23]);
        x.place(5, 77);
        x.set(23, 2, 1);
        for (int i = 0; i < 13; i++) {
            Due.text(x, "turn " + i);
        }
        Due.text(x, "odds 7");
        x.seed(unstruck());
        x.come(23);
        x.keep();
        x.come(NONE);
        x.turns(23, 1);
        x.set(23, 1, 3);
        x.set(23, 2, 0);
        return x;
    }

    private static void minutesTold() {
        edges.ofTerms(5, "THE MINUTES TOLD: of n MINUTES, each with the BEST STEP of TREE of 20 minutes (STAY nowhere), one behind the other, by THE IMAGE: MET and STRUCK behind each.");
        edges.is("nowhere, 0 and 0", told(States.flat(), 0, 0), 0);
        // As with run: staying and leaving are the same with 38, leaving is worse with 39.
        edges.is("not 19 minutes", told(at(38), 200, 0, 4000, 0), 0);
        edges.is("not 21 minutes", told(at(39), 200, 0, 400, 0), 0);
        edges.is("then nowhere", told(at(38), 200, 0, 4000, 0, 4000, 0), 0);
        RidgeClaps met = at(38);
        met.run(1);
        edges.is("MET goes on from the image", told(met, 4000, 0), 0);
        RidgeClaps other = at(38);
        other.keep();
        other.come(0);
        edges.is("by THE IMAGE, not as it is", toldNow(other, 200, 0), 0);
        RidgeClaps struck = States.risks(99);
        struck.turns(0, 3);
        struck.come(0);
        edges.is("STRUCK", told(struck, 21800, 1), 0);
        edges.is("STRUCK, not again nowhere", told(struck, 21800, 1, 21800, 1), 0);
    }

    private static RidgeClaps at(int end) {
        RidgeClaps x = States.risks(end, 2, end);
        x.seed(unstruck());
        x.come(1);
        return x;
    }

    /** A seed from which the next two draws have rests of 9000 or more. */
    private static int unstruck() {
        for (int seed = 0; ; seed++) {
            int z = seed * 1103515245 + 12345;
            int next = z * 1103515245 + 12345;
            if ((z >>> 8) % 10000 >= 9000 && (next >>> 8) % 10000 >= 9000) {
                return seed;
            }
        }
    }

    private static int told(RidgeClaps x, int... row) {
        x.keep();
        return toldNow(x, row);
    }

    private static int toldNow(RidgeClaps x, int... row) {
        for (int v : row) {
            x.tell(v);
        }
        return x.check(row.length / 2);
    }
}
