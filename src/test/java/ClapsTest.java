/** Promises 19 and 20: claps. */
public final class ClapsTest {
    private static final int BAD = RidgeClaps.BAD, NONE = RidgeClaps.NONE, NOTHING = RidgeClaps.NOTHING;
    private static final int MIN = Integer.MIN_VALUE, MAX = Integer.MAX_VALUE;
    private static final Due due = new Due("ClapsTest");

    public static void main(String[] args) {
        refused();
        counted();
        explained();
        heard();
        due.end();
    }

    private static RidgeClaps sheetOf(int sort, int... values) {
        RidgeClaps x = new RidgeClaps();
        x.sheet(2, sort, values.length);
        for (int i = 0; i < values.length; i++) {
            x.mark(2, i, values[i]);
        }
        return x;
    }

    private static void refused() {
        RidgeClaps x = sheetOf(1, 3, NONE);
        int[][] wrong = {{-1, 0}, {4, 0}, {2, -1}, {2, 4}, {MIN, 0}, {MAX, 0}, {2, MIN}, {2, MAX}, {0, 4}};
        for (int[] w : wrong) {
            due.is("19 claps", x.claps(w[0], w[1]), BAD);
        }
        for (int wrongSheet : new int[] {-1, 4, MIN, MAX}) {
            due.is("20 hear", x.hear(wrongSheet), BAD);
        }
        due.is("19 missing", x.claps(0, 0), NOTHING);
        due.is("20 missing", x.hear(0), NOTHING);
        x.mark(2, 0, NONE);
        for (int what = 0; what < 4; what++) {
            due.is("19 none", x.claps(2, what), NONE);
        }
        due.is("20 none", x.hear(2), NONE);
        x.sheet(1, 0, 0);
        due.is("19 no places", x.claps(1, 3), NONE);
        due.is("20 no places", x.hear(1), NONE);
        due.is("20 far stays", x.count(3), 60);
        due.is("20 pace stays", x.count(4), 2);
    }

    private static void counted() {
        RidgeClaps x = sheetOf(1, NONE, 10, 10, NONE, 8, NONE, NONE, 9, 7, 7, 5, NONE);
        due.is("19 how far", x.claps(2, 0), 1);
        due.is("19 comes", x.claps(2, 1), 3 - 1);
        due.is("19 goes", sheetOf(0, 1, 2, 3, 3).claps(2, 1), -2);
        due.is("19 cut", sheetOf(0, 1, 11).claps(2, 0), 3);
        due.is("19 cut towards 0", sheetOf(0, 1, -11).claps(2, 0), -3);
        due.is("19 not held", sheetOf(1, 99999).claps(2, 0), 33333);
        due.is("19 one comes not", sheetOf(1, 99999).claps(2, 1), 0);
    }

    private static void explained() {
        // One clap is explained by any PACE: the least.
        due.is("19 one", sheetOf(0, 30).claps(2, 2), -9);
        due.is("19 one", sheetOf(0, 31).claps(2, 3), 1);
        due.is("19 the first is held, too", sheetOf(0, 600).claps(2, 3), 600 - 297);
        due.is("19 the first is held, too", sheetOf(0, -10).claps(2, 3), 10);
        RidgeClaps steady = sheetOf(0, 60, 60, 60);
        due.is("19 steady", steady.claps(2, 2), 0);
        due.is("19 steady", steady.claps(2, 3), 0);
        RidgeClaps fast = sheetOf(1, NONE, 270, NONE, NONE, 189, 162);
        due.is("19 fast", fast.claps(2, 2), 9);
        due.is("19 fast", fast.claps(2, 3), 0);
        RidgeClaps away = sheetOf(1, 0, NONE, 54);
        due.is("19 away", away.claps(2, 2), -9);
        due.is("19 away", away.claps(2, 3), 0);
        for (int pace = -9; pace <= 9; pace++) {
            RidgeClaps each = sheetOf(0, 150, 150 - 3 * pace, 150 - 6 * pace);
            due.is("19 pace", each.claps(2, 2), pace);
            due.is("19 pace", each.claps(2, 3), 0);
            each.hear(2);
            due.is("20 pace", each.count(4), pace);
        }
        // 30, 39: PACE -3; with 40 on place 2 as well: |39 - 33| + |40 - 36| = 10, |39 - 36| + |40 - 42| = 5.
        RidgeClaps mixed = sheetOf(0, 30, 39, 40);
        due.is("19 mixed", mixed.claps(2, 2), -2);
        due.is("19 mixed", mixed.claps(2, 3), 5);
        // Near 0 all PACES from 5 on are held to the same: of several the least.
        RidgeClaps near = sheetOf(0, 15, 0, 0);
        due.is("19 of several the least", near.claps(2, 2), 5);
        due.is("19 of several the least", near.claps(2, 3), 0);
        RidgeClaps high = sheetOf(0, 297, 297, 297);
        due.is("19 held above", high.claps(2, 2), -9);
        due.is("19 held above", high.claps(2, 3), 0);
    }

    private static void heard() {
        RidgeClaps x = sheetOf(1, NONE, 90, 87, NONE, 81);
        due.is("20 hear", x.hear(2), 27);
        due.is("20 far", x.count(3), 27);
        due.is("20 pace", x.count(4), 1);
        RidgeClaps high = sheetOf(1, 500);
        due.is("20 held", high.hear(2), 99);
        due.is("20 far", high.count(3), 99);
        due.is("20 pace", high.count(4), -9);
        RidgeClaps low = sheetOf(0, 0, -500);
        due.is("20 held", low.hear(2), 0);
        due.is("20 far", low.count(3), 0);
        due.is("20 pace", low.count(4), 0);
    }
}
