/** Promises 26 to 34: sheets and slots. */
public final class SheetsTest {
    private static final int BAD = RidgeClaps.BAD, NO = RidgeClaps.NO, NONE = RidgeClaps.NONE, NOTHING = RidgeClaps.NOTHING;
    private static final int KIND = RidgeClaps.KIND, INDEX = RidgeClaps.INDEX, SIZE = RidgeClaps.SIZE;
    private static final int MIN = Integer.MIN_VALUE, MAX = Integer.MAX_VALUE;
    private static final Due due = new Due("SheetsTest");

    public static void main(String[] args) {
        sheet();
        mark();
        pour();
        reads();
        copyRefused();
        copied();
        lay();
        ask();
        item();
        rest();
        due.end();
    }

    /** What stands at a place: NONE for NO NUMBER, else what item answers. */
    private static int at(RidgeClaps x, int sheet, int place) {
        x.lay(4, 2, sheet);
        int v = x.item(4, place);
        return v == KIND ? NONE : v;
    }

    private static void fill(RidgeClaps x, int sheet, int sort, int... values) {
        x.sheet(sheet, sort, values.length);
        for (int i = 0; i < values.length; i++) {
            x.mark(sheet, i, values[i]);
        }
    }

    private static void row(RidgeClaps x, int sheet, int... values) {
        for (int i = 0; i < values.length; i++) {
            due.is("place " + i + " of sheet " + sheet, at(x, sheet, i), values[i]);
        }
        due.is("no more places", at(x, sheet, values.length), INDEX);
    }

    private static void sheet() {
        RidgeClaps x = new RidgeClaps();
        due.is("26 sheet", x.sheet(0, 0, 3), 3);
        due.is("26 sheet", x.sheet(3, 1, 24), 24);
        due.is("26 no places", x.sheet(1, 1, 0), 0);
        due.is("26 all 0", at(x, 0, 2), 0);
        row(x, 0, 0, 0, 0);
        row(x, 1);
        int[][] wrong = {{-1, 0, 1}, {4, 0, 1}, {0, -2, 1}, {0, 2, 1}, {0, 0, 25}, {0, 1, 25}, {0, 0, MAX}, {MIN, 0, 1}, {0, MIN, 1}, {0, MAX, 1}, {4, 0, -1}, {0, 2, -1}, {4, -1, 0}};
        for (int[] w : wrong) {
            due.is("26 sheet", x.sheet(w[0], w[1], w[2]), BAD);
        }
        due.is("26 size", x.sheet(0, 0, -1), SIZE);
        due.is("26 size", x.sheet(0, 1, MIN), SIZE);
        x.mark(0, 1, 8);
        due.is("26 size changes nothing", x.sheet(0, 0, -1), SIZE);
        row(x, 0, 0, 8, 0);
        due.is("26 anew", x.sheet(0, 0, 2), 2);
        row(x, 0, 0, 0);
        int[] any = {0, 7, 25, -1, MIN, MAX};
        for (int n : any) {
            x.sheet(0, 1, 2);
            due.is("26 missing", x.sheet(0, -1, n), 0);
            due.is("26 missing", x.mark(0, 0, 1), NOTHING);
        }
    }

    private static void mark() {
        RidgeClaps x = new RidgeClaps();
        due.is("27 bad", x.mark(-1, 0, 0), BAD);
        due.is("27 bad", x.mark(4, 0, 0), BAD);
        due.is("27 bad", x.mark(MIN, 0, 0), BAD);
        due.is("27 bad", x.mark(MAX, 0, 0), BAD);
        due.is("27 nothing", x.mark(0, 99, NONE), NOTHING);
        x.sheet(0, 0, 6);
        x.sheet(1, 1, 5);
        for (int place : new int[] {-1, 6, 24, MIN, MAX}) {
            due.is("27 index ahead of kind", x.mark(0, place, NONE), INDEX);
            due.is("27 index ahead of bad", x.mark(1, place, 100000), INDEX);
        }
        due.is("27 kind", x.mark(0, 0, NONE), KIND);
        int[] shorts = {32767, 32768, -32769, 65536, MIN, MAX};
        for (int i = 0; i < 6; i++) {
            due.is("27 short", x.mark(0, i, shorts[i]), 1);
        }
        row(x, 0, 32767, -32768, 32767, 0, 0, -1);
        due.is("27 float", x.mark(1, 0, 99999), 1);
        due.is("27 float", x.mark(1, 1, -99999), 1);
        due.is("27 no number", x.mark(1, 2, NONE), 1);
        for (int v : new int[] {100000, -100000, MIN, MAX, BAD, NOTHING}) {
            due.is("27 bad float", x.mark(1, 3, v), BAD);
        }
        row(x, 1, 99999, -99999, NONE, 0, 0);
        due.is("27 a number again", x.mark(1, 2, -7), 1);
        row(x, 1, 99999, -99999, -7, 0, 0);
        due.is("27 shorts may be any else", x.mark(0, 0, NO), 1);
        due.is("27 its lowest bits", at(x, 0, 0), (short) NO);
    }

    private static void pour() {
        RidgeClaps x = new RidgeClaps();
        due.is("28 bad", x.pour(-1), BAD);
        due.is("28 bad", x.pour(4), BAD);
        due.is("28 bad", x.pour(MIN), BAD);
        due.is("28 bad", x.pour(MAX), BAD);
        due.is("28 nothing", x.pour(1), NOTHING);
        for (int i = 0; i < 5; i++) {
            x.place(i, 10 * i);
        }
        fill(x, 1, 1, 500, 10, NONE, -7);
        due.is("28 pour", x.pour(1), 2);
        int[] heights = {99, 10, 20, 0, 40};
        for (int i = 0; i < 5; i++) {
            due.is("28 height", x.told(i, 1), heights[i]);
        }
        due.is("28 again", x.pour(1), 0);
        fill(x, 2, 0, 1, 2, 3, 4, 5, 6, 7);
        due.is("28 more than there are", x.pour(2), 5);
        due.is("28 places", x.count(0), 5);
        due.is("28 height", x.told(4, 1), 5);
        due.is("28 no places", new RidgeClaps().sheet(0, 0, 2), 2);
        RidgeClaps none = new RidgeClaps();
        none.sheet(0, 0, 2);
        due.is("28 no PLACES", none.pour(0), 0);
    }

    private static void reads() {
        RidgeClaps x = new RidgeClaps();
        due.is("29 bad", x.reads(-1), BAD);
        due.is("29 bad", x.reads(4), BAD);
        due.is("29 bad", x.reads(MIN), BAD);
        due.is("29 nothing", x.reads(0), NOTHING);
        x.place(0, 50);
        x.place(1, 50);
        x.place(2, 50);
        x.sheet(0, 0, 0);
        due.is("29 no places", x.reads(0), NONE);
        fill(x, 1, 0, 5, 15);
        due.is("29 none", x.reads(1), NONE);
        fill(x, 1, 0, 5, 15, 3);
        due.is("29 the third", x.reads(1), 2);
        fill(x, 1, 0, 4, 15, 3);
        due.is("29 the first of several", x.reads(1), 0);
        fill(x, 1, 1, NONE, 15, NONE, NONE);
        due.is("29 numbers alone", x.reads(1), NONE);
        fill(x, 1, 1, 5, NONE, 2, NONE, 0);
        due.is("29 no PLACE there", x.reads(1), 4);
        Due.text(x, "risk 60+n");
        fill(x, 1, 1, 60, 71, 31);
        due.is("29 by the text", x.reads(1), NONE);
    }

    private static void copyRefused() {
        RidgeClaps x = new RidgeClaps();
        x.sheet(0, 0, 5);
        x.sheet(1, 1, 5);
        x.sheet(2, 1, 3);
        int[][] bad = {{-1, 0, 0, 0, 1}, {4, 0, 0, 0, 1}, {0, 0, -1, 0, 1}, {0, 0, 4, 0, 1}, {MIN, 0, 0, 0, 1}, {0, 0, MAX, 0, 1}, {3, 0, 4, 0, 1}};
        for (int[] b : bad) {
            due.is("30 bad", x.copy(b[0], b[1], b[2], b[3], b[4]), BAD);
        }
        due.is("30 nothing", x.copy(3, 9, 0, 9, 9), NOTHING);
        due.is("30 nothing", x.copy(0, 9, 3, 9, 9), NOTHING);
        due.is("30 nothing", x.copy(3, 0, 3, 0, 0), NOTHING);
        due.is("30 kind ahead of index", x.copy(0, 9, 1, 9, 9), KIND);
        due.is("30 kind ahead of index", x.copy(1, -1, 0, 0, 1), KIND);
        int[][] index = {{-1, 0, 1}, {0, -1, 1}, {0, 0, -1}, {0, 0, 4}, {3, 0, 3}, {0, 1, 3}, {5, 0, 1}, {0, 3, 1}, {6, 0, 0}, {0, 4, 0}, {-1, 0, 0}, {0, -1, 0},
            {MAX, 0, 1}, {0, MAX, 1}, {0, 0, MAX}, {1, 1, MAX}, {MIN, 0, 0}, {0, MIN, 0}, {0, 0, MIN}, {MAX, MAX, MAX}, {MIN, MIN, MIN}};
        for (int[] i : index) {
            due.is("30 index", x.copy(1, i[0], 2, i[1], i[2]), INDEX);
        }
        due.is("30 none behind the last", x.copy(1, 5, 2, 3, 0), 0);
        due.is("30 none", x.copy(1, 0, 2, 0, 0), 0);
        x.sheet(2, 1, 0);
        due.is("30 none of none", x.copy(2, 0, 2, 0, 0), 0);
    }

    private static void copied() {
        RidgeClaps x = new RidgeClaps();
        fill(x, 0, 1, 1, 2, NONE, 4, 5);
        fill(x, 1, 1, 6, 7, 8);
        due.is("30 copy", x.copy(0, 1, 1, 0, 2), 2);
        row(x, 1, 2, NONE, 8);
        row(x, 0, 1, 2, NONE, 4, 5);
        due.is("30 on itself", x.copy(0, 0, 0, 1, 4), 4);
        row(x, 0, 1, 1, 2, NONE, 4);
        due.is("30 on itself", x.copy(0, 1, 0, 0, 4), 4);
        row(x, 0, 1, 2, NONE, 4, 4);
        fill(x, 2, 0, 10, 20);
        fill(x, 3, 0, 30, 40);
        due.is("30 shorts", x.copy(2, 0, 3, 0, 2), 2);
        row(x, 3, 10, 20);
        x.mark(2, 0, 99);
        row(x, 3, 10, 20);
    }

    private static void lay() {
        RidgeClaps x = new RidgeClaps();
        x.place(1, 30);
        x.sheet(1, 0, 2);
        int[][] bad = {{-1, 0, 0}, {5, 0, 0}, {0, -1, 0}, {0, 4, 0}, {0, 1, -1}, {0, 1, 1}, {0, 2, -1}, {0, 2, 4}, {MIN, 0, 0}, {MAX, 0, 0}, {0, MIN, 0}, {0, MAX, 0}, {0, 1, MIN}, {0, 2, MAX}};
        for (int[] b : bad) {
            due.is("31 bad", x.lay(b[0], b[1], b[2]), BAD);
        }
        due.is("31 nothing", x.lay(0, 2, 0), NOTHING);
        due.is("31 held nothing", x.lay(0, 1, 0), 0);
        due.is("31 held a place", x.lay(0, 2, 1), 1);
        due.is("31 refused", x.lay(0, 2, 0), NOTHING);
        due.is("31 refused", x.lay(0, 1, 7), BAD);
        due.is("31 held a sheet", x.lay(0, 3, MIN), 2);
        due.is("31 held a number", x.lay(0, 3, MAX), 3);
        due.is("31 any k", x.lay(0, 0, MAX), 3);
        due.is("31 any k", x.lay(0, 0, MIN), 0);
        due.is("31 slot 4", x.lay(4, 3, 1), 0);
    }

    private static void ask() {
        RidgeClaps x = new RidgeClaps();
        x.place(3, 40);
        x.place(4, 40);
        x.sheet(0, 0, 1);
        due.is("32 nothing", x.ask(0, 0), NOTHING);
        int[][] bad = {{-1, 0}, {5, 0}, {0, -1}, {0, 6}, {MIN, 0}, {MAX, 0}, {0, MIN}, {0, MAX}};
        for (int[] b : bad) {
            due.is("32 bad", x.ask(b[0], b[1]), BAD);
        }
        x.lay(0, 1, 0);
        x.lay(1, 1, 1);
        int[] spire = {94, 94, KIND, 94, KIND, KIND};
        int[] lipped = {40, KIND, 40, KIND, 40, KIND};
        for (int kind = 0; kind < 6; kind++) {
            due.is("32 spire as " + kind, x.ask(0, kind), spire[kind]);
            due.is("32 lipped as " + kind, x.ask(1, kind), lipped[kind]);
        }
        x.keep();
        x.turns(0, 0);
        x.set(0, 1, 1);
        due.is("32 as it was then", x.ask(0, 3), 94);
        x.back();
        x.lay(0, 2, 0);
        due.is("32 a sheet", x.ask(0, 0), KIND);
        x.lay(0, 3, 0);
        due.is("32 a number", x.ask(0, 0), KIND);
        due.is("32 bad ahead of kind", x.ask(0, 6), BAD);
        x.lay(0, 0, 0);
        due.is("32 nothing again", x.ask(0, 0), NOTHING);
    }

    private static void item() {
        RidgeClaps x = new RidgeClaps();
        x.place(0, 40);
        fill(x, 3, 1, 5, NONE, -99999);
        due.is("33 nothing", x.item(2, -1), NOTHING);
        for (int slot : new int[] {-1, 5, MIN, MAX}) {
            due.is("33 bad", x.item(slot, 0), BAD);
        }
        x.lay(2, 1, 0);
        due.is("33 a place", x.item(2, 99), KIND);
        x.lay(2, 3, 0);
        due.is("33 a number", x.item(2, 0), KIND);
        x.lay(2, 2, 3);
        x.mark(3, 0, 6);
        x.sheet(3, -1, 0);
        due.is("33 as it was then", x.item(2, 0), 5);
        due.is("33 no number", x.item(2, 1), KIND);
        due.is("33 item", x.item(2, 2), -99999);
        for (int place : new int[] {-1, 3, 24, MIN, MAX}) {
            due.is("33 index", x.item(2, place), INDEX);
        }
        x.sheet(3, 0, 0);
        x.lay(2, 2, 3);
        due.is("33 no places", x.item(2, 0), INDEX);
    }

    private static void rest() {
        RidgeClaps x = new RidgeClaps();
        x.place(0, 40);
        x.sheet(0, 0, 1);
        due.is("34 nothing", x.rest(1, 0), NOTHING);
        for (int slot : new int[] {-1, 5, MIN, MAX}) {
            due.is("34 bad", x.rest(slot, 1), BAD);
        }
        x.lay(1, 1, 0);
        due.is("34 a place", x.rest(1, 0), KIND);
        x.lay(1, 2, 0);
        due.is("34 a sheet", x.rest(1, 5), KIND);
        int[][] rests = {{17, 5, 2}, {-17, 5, -2}, {17, -5, 2}, {-17, -5, -2}, {MIN, -1, 0}, {MIN, MIN, 0}, {MAX, MIN, MAX}, {0, 3, 0}, {3, 1, 0}};
        for (int[] r : rests) {
            x.lay(1, 3, r[0]);
            due.is("34 " + r[0] + " by " + r[1], x.rest(1, r[1]), r[2]);
        }
        due.is("34 by 0", x.rest(1, 0), NO);
    }
}
