import java.util.Arrays;
import java.util.function.Supplier;

/** The boundary cases of promises 26 to 34: sheets and slots. */
public final class EdgesSheetsTest {
    private static final int BAD = RidgeClaps.BAD, NO = RidgeClaps.NO, NONE = RidgeClaps.NONE, NOTHING = RidgeClaps.NOTHING;
    private static final int KIND = RidgeClaps.KIND, INDEX = RidgeClaps.INDEX, SIZE = RidgeClaps.SIZE;
    private static final int MIN = States.MIN, MAX = States.MAX;
    private static final int[] NO_SHEET = {-1, 4, MIN, MAX, NONE};
    private static final int[] NO_SLOT = {-1, 5, MIN, MAX, NONE};
    private static final Edges edges = new Edges("EdgesSheetsTest");

    public static void main(String[] args) {
        sheet();
        sheetRefused();
        mark();
        markRefused();
        pour();
        reads();
        copy();
        copyRefused();
        copyIndex();
        lay();
        layRefused();
        ask();
        item();
        rest();
        edges.end(26, 34);
    }

    /** The row on a SHEET (NONE: NO NUMBER), by way of SLOT 0. */
    private static String row(RidgeClaps x, int sheet) {
        x.lay(0, 2, sheet);
        int[] row = new int[25];
        int n = 0;
        for (; n < 25 && x.item(0, n) != INDEX; n++) {
            row[n] = x.item(0, n) == KIND ? NONE : x.item(0, n);
        }
        return Arrays.toString(Arrays.copyOf(row, n));
    }

    private static void rowIs(String edge, RidgeClaps x, int sheet, int... want) {
        edges.is(edge, row(x, sheet).equals(Arrays.toString(want)) ? 1 : 0, 1);
    }

    private static RidgeClaps row(int sort, int... values) {
        return States.fill(new RidgeClaps(), 0, sort, values);
    }

    private static void sheet() {
        edges.of(26, "A SHEET becomes a row of n places of a sort, all 0 (sort -1: MISSING, n any): n (0).");
        for (int sort = 0; sort <= 1; sort++) {
            for (int n : new int[] {0, 1, 23, 24}) {
                RidgeClaps x = new RidgeClaps();
                edges.is(n + " places of sort " + sort, x.sheet(3, sort, n), n);
                rowIs(n + " places of sort " + sort + ", all 0", x, 3, new int[n]);
                RidgeClaps y = States.fill(new RidgeClaps(), 3, sort, 5, 6, 7, 8);
                y.sheet(3, sort, n);
                rowIs(n + " places of sort " + sort + " behind others, all 0", y, 3, new int[n]);
            }
            RidgeClaps x = new RidgeClaps();
            x.sheet(0, sort, 1);
            edges.is("sort " + sort + " takes no number, or not", x.mark(0, 0, NONE), sort == 0 ? KIND : 1);
        }
        RidgeClaps shrunk = States.fill(new RidgeClaps(), 3, 1, 5, 6, 7);
        shrunk.sheet(3, 1, 1);
        shrunk.sheet(3, 1, 3);
        rowIs("smaller and larger again, all 0", shrunk, 3, 0, 0, 0);
        for (int n : new int[] {0, 1, -1, 24, 25, MIN, MAX, NONE}) {
            RidgeClaps x = row(0, 5, 6);
            edges.is("missing, n " + n, x.sheet(0, -1, n), 0);
            edges.is("it is missing, n " + n, x.mark(0, 0, 1), NOTHING);
        }
        edges.is("missing again", new RidgeClaps().sheet(3, -1, 7), 0);
        RidgeClaps others = States.rich();
        others.sheet(0, 1, 2);
        rowIs("the other sheets stay", others, 1, 90, NONE, 84, 500, -1, NONE);
    }

    private static void sheetRefused() {
        edges.of(26, "BAD: sheet, sort, n above 24;");
        for (int sheet : NO_SHEET) {
            edges.refused("sheet " + sheet, States.RICH, x -> x.sheet(sheet, 0, 1), BAD);
            edges.refused("sheet " + sheet + ", ahead of size", States.RICH, x -> x.sheet(sheet, 0, -1), BAD);
            edges.refused("sheet " + sheet + ", missing", States.RICH, x -> x.sheet(sheet, -1, 0), BAD);
        }
        for (int sort : new int[] {-2, 2, MIN, MAX, NONE}) {
            edges.refused("sort " + sort, States.RICH, x -> x.sheet(0, sort, 1), BAD);
            edges.refused("sort " + sort + ", ahead of size", States.RICH, x -> x.sheet(0, sort, -1), BAD);
        }
        for (int n : new int[] {25, 26, MAX}) {
            edges.refused("n " + n + " of shorts", States.RICH, x -> x.sheet(0, 0, n), BAD);
            edges.refused("n " + n + " of floats", States.RICH, x -> x.sheet(0, 1, n), BAD);
        }
        edges.of(26, "SIZE.");
        for (int n : new int[] {-1, -2, MIN, NONE}) {
            edges.refused("n " + n + " of shorts", States.RICH, x -> x.sheet(0, 0, n), SIZE);
            edges.refused("n " + n + " of floats", States.RICH, x -> x.sheet(0, 1, n), SIZE);
            edges.refused("n " + n + " where it is missing", States.RICH, x -> x.sheet(3, 0, n), SIZE);
        }
    }

    private static int marked(int sort, int v) {
        RidgeClaps x = row(sort, 7);
        x.mark(0, 0, v);
        x.lay(0, 2, 0);
        return x.item(0, 0);
    }

    private static void mark() {
        edges.of(27, "A place of a SHEET becomes v (of shorts its lowest 16 bits; of floats v, -99999 .. 99999; NONE: NO NUMBER): 1.");
        int[][] shorts = {{0, 0}, {-1, -1}, {32767, 32767}, {32768, -32768}, {-32768, -32768}, {-32769, 32767}, {65535, -1},
            {65536, 0}, {65537, 1}, {100000, -31072}, {MAX, -1}, {MIN, 0}, {BAD, (short) BAD}, {NONE + 1, (short) (NONE + 1)}};
        for (int[] s : shorts) {
            edges.is(s[0] + " of shorts", marked(0, s[0]), s[1]);
            edges.is(s[0] + " of shorts is answered by 1", row(0, 7).mark(0, 0, s[0]), 1);
        }
        for (int v : new int[] {0, -1, 32768, 65536, 99998, 99999, -99998, -99999}) {
            edges.is(v + " of floats", marked(1, v), v);
            edges.is(v + " of floats is answered by 1", row(1, 7).mark(0, 0, v), 1);
        }
        edges.is("no number of floats", marked(1, NONE), KIND);
        edges.is("no number of floats is answered by 1", row(1, 7).mark(0, 0, NONE), 1);
        edges.is("a number again", row(1, NONE).mark(0, 0, 5), 1);
        RidgeClaps first = row(1, new int[24]);
        first.mark(0, 0, 5);
        first.mark(0, 23, 6);
        int[] want = new int[24];
        want[0] = 5;
        want[23] = 6;
        rowIs("the first place and the last one", first, 0, want);
    }

    private static void markRefused() {
        edges.of(27, "BAD: sheet;");
        for (int sheet : NO_SHEET) {
            edges.refused("sheet " + sheet, States.RICH, x -> x.mark(sheet, 0, 1), BAD);
        }
        edges.of(27, "NOTHING;");
        edges.refused("missing", States.RICH, x -> x.mark(3, 0, 1), NOTHING);
        edges.refused("missing, ahead of index", States.RICH, x -> x.mark(3, 99, 1), NOTHING);
        edges.refused("missing, ahead of kind", States.RICH, x -> x.mark(3, 0, NONE), NOTHING);
        edges.refused("missing, ahead of bad", States.RICH, x -> x.mark(3, 0, MAX), NOTHING);
        edges.of(27, "INDEX;");
        for (int place : new int[] {-1, 5, 23, 24, MIN, MAX, NONE}) {
            edges.refused("place " + place + " of 5 shorts", States.RICH, x -> x.mark(0, place, 1), INDEX);
            edges.refused("place " + place + ", ahead of kind", States.RICH, x -> x.mark(0, place, NONE), INDEX);
        }
        for (int place : new int[] {-1, 6, 24, MIN, MAX}) {
            edges.refused("place " + place + " of 6 floats, ahead of bad", States.RICH, x -> x.mark(1, place, 100000), INDEX);
        }
        edges.refused("place 0 of none", States.RICH, x -> x.mark(2, 0, 1), INDEX);
        edges.of(27, "KIND: NONE in a row of shorts;");
        edges.refused("the first place", States.RICH, x -> x.mark(0, 0, NONE), KIND);
        edges.refused("the last place", States.RICH, x -> x.mark(0, 4, NONE), KIND);
        edges.of(27, "BAD: v of floats.");
        for (int v : new int[] {100000, -100000, MIN, MAX, NONE - 1, NONE + 1, BAD}) {
            edges.refused("v " + v, States.RICH, x -> x.mark(1, 0, v), BAD);
        }
        edges.refused("where there is no number", States.RICH, x -> x.mark(1, 1, 100000), BAD);
    }

    private static void pour() {
        edges.of(28, "HEIGHTS of PLACES, by numbers, become the numbers at the places of a SHEET from 0 on (each held within 0 .. 99;");
        int[][] held = {{0, 0}, {99, 99}, {-1, 0}, {100, 99}, {-32768, 0}, {32767, 99}};
        for (int[] h : held) {
            RidgeClaps x = States.fill(States.flat(50), 0, 0, h[0]);
            edges.is("a number " + h[0] + " is otherwise", x.pour(0), 1);
            edges.is("a number " + h[0] + " is held", x.told(0, 1), h[1]);
        }
        RidgeClaps high = States.fill(States.flat(0), 0, 1, 99999);
        edges.is("the highest float", high.pour(0) + high.told(0, 1), 1 + 99);
        RidgeClaps low = States.fill(States.flat(99), 0, 1, -99999);
        edges.is("the lowest float", low.pour(0) + low.told(0, 1), 1);
        int[] all = new int[24];
        Arrays.fill(all, 9);
        RidgeClaps many = States.fill(States.flat(new int[24]), 0, 0, all);
        edges.is("24 places", many.pour(0), 24);
        edges.is("the last of 24", many.told(23, 1), 9);
        edges.of(28, "NO NUMBER, and beyond the SHEET: they stay):");
        RidgeClaps x = States.fill(States.flat(10, 20, 30), 0, 1, NONE, 25);
        edges.is("one alone is otherwise", x.pour(0), 1);
        edges.is("no number", x.told(0, 1), 10);
        edges.is("a number", x.told(1, 1), 25);
        edges.is("beyond the sheet", x.told(2, 1), 30);
        edges.is("a sheet without places", States.fill(States.flat(10), 0, 1).pour(0), 0);
        edges.of(28, "how many are otherwise then.");
        edges.is("the same number", States.fill(States.flat(10), 0, 0, 10).pour(0), 0);
        edges.is("the same when held above", States.fill(States.flat(99), 0, 0, 500).pour(0), 0);
        edges.is("the same when held below", States.fill(States.flat(0), 0, 0, -500).pour(0), 0);
        RidgeClaps more = States.fill(States.flat(10), 0, 0, 11, 12, 13);
        edges.is("numbers beyond the places", more.pour(0), 1);
        edges.is("no places come by it", more.count(0), 1);
        edges.is("without places", row(0, 1, 2).pour(0), 0);
        edges.is("it stays the second time", more.pour(0), 0);
        edges.of(28, "BAD;");
        for (int sheet : NO_SHEET) {
            edges.refused("sheet " + sheet, States.RICH, r -> r.pour(sheet), BAD);
        }
        edges.of(28, "NOTHING.");
        edges.refused("missing", States.RICH, r -> r.pour(3), NOTHING);
        edges.refused("missing at first", States.NEW, r -> r.pour(0), NOTHING);
    }

    private static void reads() {
        edges.of(29, "The first place (of numbers alone) at which a SHEET is not RISK of that PLACE (of places that are no PLACE all numbers are not).");
        edges.is("the first place", States.fill(States.flat(10, 20), 0, 0, 2, 3).reads(0), 0);
        edges.is("the last place", States.fill(States.flat(10, 20), 0, 0, 1, 3).reads(0), 1);
        edges.is("one more", States.fill(States.flat(10), 0, 0, 2).reads(0), 0);
        edges.is("one less", States.fill(States.flat(10), 0, 0, 0).reads(0), 0);
        edges.is("no number is left out", States.fill(States.flat(10, 20), 0, 1, NONE, 3).reads(0), 1);
        edges.is("the number behind the places", States.fill(States.flat(10), 0, 0, 1, 0).reads(0), 1);
        edges.is("no number behind the places", States.fill(States.flat(10), 0, 1, 1, NONE, 0).reads(0), 2);
        edges.is("0 without places", row(0, 0).reads(0), 0);
        int[] risks = new int[24];
        RidgeClaps all = States.fill(States.flat(new int[24]), 0, 0, risks);
        all.set(23, 1, 10);
        edges.is("the 24th", all.reads(0), 23);
        RidgeClaps spire = States.fill(States.flat(99), 0, 0, 38);
        edges.is("by kind, otherwise", spire.reads(0), 0);
        spire.turns(0, 3);
        edges.is("by kind", spire.reads(0), NONE);
        edges.of(29, "BAD;");
        for (int sheet : NO_SHEET) {
            edges.refused("sheet " + sheet, States.RICH, r -> r.reads(sheet), BAD);
        }
        edges.of(29, "NOTHING;");
        edges.refused("missing", States.RICH, r -> r.reads(3), NOTHING);
        edges.refused("missing at first", States.NEW, r -> r.reads(0), NOTHING);
        edges.of(29, "NONE: there is none.");
        edges.is("all are the same", States.fill(States.flat(10, 20), 0, 0, 1, 2).reads(0), NONE);
        edges.is("as far as the sheet goes", States.fill(States.flat(10, 20), 0, 0, 1).reads(0), NONE);
        edges.is("a sheet without places", States.fill(States.flat(10), 0, 1).reads(0), NONE);
        edges.is("no number at all", States.fill(States.flat(10), 0, 1, NONE, NONE).reads(0), NONE);
        edges.is("no number at all without places", row(1, NONE).reads(0), NONE);
        all.set(23, 1, 9);
        edges.is("all of 24", all.reads(0), NONE);
    }

    /** SHEETS of floats: 0: 1 2 NONE 4 5, 1: 6 7 8. */
    private static RidgeClaps two() {
        RidgeClaps x = States.fill(new RidgeClaps(), 0, 1, 1, 2, NONE, 4, 5);
        return States.fill(x, 1, 1, 6, 7, 8);
    }

    private static void copied(String edge, int[] call, int sheet, int... want) {
        RidgeClaps x = two();
        edges.is(edge, x.copy(call[0], call[1], call[2], call[3], call[4]), call[4]);
        rowIs(edge + ": the row", x, sheet, want);
    }

    private static void copy() {
        edges.of(30, "So many places of a SHEET come to another one (or the same), as they were: many.");
        copied("one place", new int[] {0, 0, 1, 0, 1}, 1, 1, 7, 8);
        copied("the last place to the last", new int[] {0, 4, 1, 2, 1}, 1, 6, 7, 5);
        copied("no number comes, too", new int[] {0, 2, 1, 0, 1}, 1, NONE, 7, 8);
        copied("a number to where there is none", new int[] {1, 0, 0, 2, 1}, 0, 1, 2, 6, 4, 5);
        copied("all of one", new int[] {1, 0, 0, 0, 3}, 0, 6, 7, 8, 4, 5);
        copied("to the end of the other", new int[] {1, 0, 0, 2, 3}, 0, 1, 2, 6, 7, 8);
        copied("from the end of the other", new int[] {0, 2, 1, 0, 3}, 1, NONE, 4, 5);
        copied("the source stays", new int[] {0, 2, 1, 0, 3}, 0, 1, 2, NONE, 4, 5);
        copied("the same, on itself", new int[] {0, 0, 0, 0, 5}, 0, 1, 2, NONE, 4, 5);
        copied("the same, further on, as they were", new int[] {0, 0, 0, 1, 4}, 0, 1, 1, 2, NONE, 4);
        copied("the same, further back, as they were", new int[] {0, 1, 0, 0, 4}, 0, 2, NONE, 4, 5, 5);
        copied("none", new int[] {0, 0, 1, 0, 0}, 1, 6, 7, 8);
        int[] all = new int[24];
        for (int i = 0; i < 24; i++) {
            all[i] = i - 5;
        }
        RidgeClaps x = States.fill(States.fill(new RidgeClaps(), 2, 0, all), 3, 0, new int[24]);
        edges.is("24 shorts", x.copy(2, 0, 3, 0, 24), 24);
        rowIs("24 shorts: the row", x, 3, all);
        x.mark(2, 0, 77);
        rowIs("they are rows of their own", x, 3, all);
    }

    private static void copyRefused() {
        edges.of(30, "BAD;");
        for (int sheet : NO_SHEET) {
            edges.refused("from " + sheet, States.RICH, x -> x.copy(sheet, 0, 0, 0, 1), BAD);
            edges.refused("to " + sheet, States.RICH, x -> x.copy(0, 0, sheet, 0, 1), BAD);
            edges.refused("from " + sheet + ", ahead of nothing", States.RICH, x -> x.copy(sheet, 0, 3, 0, 1), BAD);
            edges.refused("to " + sheet + ", ahead of nothing", States.RICH, x -> x.copy(3, 0, sheet, 0, 1), BAD);
            edges.refused("from " + sheet + ", ahead of index", States.RICH, x -> x.copy(sheet, -1, 0, -1, -1), BAD);
        }
        edges.of(30, "NOTHING;");
        edges.refused("from a missing one", States.RICH, x -> x.copy(3, 0, 0, 0, 1), NOTHING);
        edges.refused("to a missing one", States.RICH, x -> x.copy(0, 0, 3, 0, 1), NOTHING);
        edges.refused("from and to a missing one", States.RICH, x -> x.copy(3, 0, 3, 0, 0), NOTHING);
        edges.refused("from a missing one, ahead of index", States.RICH, x -> x.copy(3, -1, 1, 99, -1), NOTHING);
        edges.refused("to a missing one, ahead of index", States.RICH, x -> x.copy(1, -1, 3, 99, -1), NOTHING);
        edges.of(30, "KIND: they are not of one sort;");
        edges.refused("shorts to floats", States.RICH, x -> x.copy(0, 0, 1, 0, 1), KIND);
        edges.refused("floats to shorts", States.RICH, x -> x.copy(1, 0, 0, 0, 1), KIND);
        edges.refused("none of them", States.RICH, x -> x.copy(0, 0, 1, 0, 0), KIND);
        edges.refused("a sheet without places", States.RICH, x -> x.copy(0, 0, 2, 0, 0), KIND);
        edges.refused("ahead of index", States.RICH, x -> x.copy(0, 99, 1, -1, 1), KIND);
        edges.refused("ahead of index, many below 0", States.RICH, x -> x.copy(0, 0, 1, 0, -1), KIND);
    }

    private static void copyIndex() {
        edges.of(30, "INDEX (many below 0, too; many 0: not at the place behind the last one). (From a SHEET, its place, to a SHEET, its place.)");
        Supplier<RidgeClaps> made = EdgesSheetsTest::richAndTwo;
        int[][] wrong = {{-1, 0, 1}, {0, -1, 1}, {0, 0, -1}, {0, 0, 4}, {3, 0, 3}, {0, 1, 3}, {5, 0, 1}, {0, 3, 1}, {4, 0, 2}, {0, 2, 2},
            {6, 0, 0}, {0, 4, 0}, {-1, 0, 0}, {0, -1, 0}, {24, 0, 0}, {25, 0, 0}, {0, 24, 0}, {MAX, 0, 0}, {0, MAX, 0}, {MIN, 0, 0}, {0, MIN, 0},
            {MAX, 0, 1}, {0, MAX, 1}, {0, 0, MAX}, {1, 0, MAX}, {0, 1, MAX}, {1, 1, MAX}, {0, 0, MIN}, {5, 3, -1}, {MAX, MAX, MAX}, {MIN, MIN, MIN}, {MAX, MAX, MIN}, {MIN, 0, MAX}};
        for (int[] w : wrong) {
            edges.refused("from " + w[0] + " of 5 to " + w[1] + " of 3, many " + w[2], made, x -> x.copy(0, w[0], 1, w[1], w[2]), INDEX);
        }
        edges.refused("on itself, one too many behind", made, x -> x.copy(0, 0, 0, 1, 5), INDEX);
        edges.refused("on itself, one too many ahead", made, x -> x.copy(0, 1, 0, 0, 5), INDEX);
        edges.refused("on itself, one ahead of the first", made, x -> x.copy(0, 0, 0, -1, 1), INDEX);
        edges.refused("one of a sheet without places", States.RICH, x -> x.copy(2, 0, 1, 0, 1), INDEX);
        edges.refused("one to a sheet without places", States.RICH, x -> x.copy(1, 0, 2, 0, 1), INDEX);
        edges.is("many 0 from the place behind the last one", two().copy(0, 5, 1, 0, 0), 0);
        edges.is("many 0 to the place behind the last one", two().copy(0, 0, 1, 3, 0), 0);
        edges.is("many 0, both", two().copy(0, 5, 1, 3, 0), 0);
        edges.is("many 0 of a sheet without places", States.rich().copy(2, 0, 2, 0, 0), 0);
        edges.is("many 0 of 24 behind the last one", row(0, new int[24]).copy(0, 24, 0, 24, 0), 0);
    }

    private static RidgeClaps richAndTwo() {
        RidgeClaps x = States.rich();
        States.fill(x, 0, 1, 1, 2, NONE, 4, 5);
        return States.fill(x, 1, 1, 6, 7, 8);
    }

    private static void lay() {
        edges.of(31, "A SLOT holds: thing 0 nothing (k any), 1 PLACE k, 2 SHEET k, 3 the number k: what it held (0 .. 3).");
        for (int slot = 0; slot < 5; slot++) {
            RidgeClaps x = States.fill(States.flat(40, 50), 3, 0, 7);
            edges.is("slot " + slot + " held nothing", x.lay(slot, 1, 1), 0);
            edges.is("slot " + slot + " has the place", x.ask(slot, 0), 50);
            edges.is("slot " + slot + " held a place", x.lay(slot, 2, 3), 1);
            edges.is("slot " + slot + " has the sheet", x.item(slot, 0), 7);
            edges.is("slot " + slot + " held a sheet", x.lay(slot, 3, 5), 2);
            edges.is("slot " + slot + " has the number", x.rest(slot, 9), 5);
            edges.is("slot " + slot + " held a number", x.lay(slot, 0, 5), 3);
            edges.is("slot " + slot + " has nothing", x.rest(slot, 9), NOTHING);
            edges.is("slot " + slot + " held nothing again", x.lay(slot, 0, 5), 0);
        }
        for (int k : new int[] {0, -1, 99, MIN, MAX, NONE}) {
            RidgeClaps x = new RidgeClaps();
            x.lay(0, 3, 1);
            edges.is("nothing, k " + k, x.lay(0, 0, k), 3);
            edges.is("nothing, k " + k + ": it is there", x.lay(0, 0, k), 0);
            x.lay(0, 3, k);
            edges.is("the number " + k, x.rest(0, MIN), k == MIN ? 0 : k);
            edges.is("the number " + k + " is a number", x.lay(0, 0, 0), 3);
        }
        RidgeClaps last = States.flat(new int[24]);
        last.set(23, 1, 77);
        last.lay(4, 1, 23);
        edges.is("place 23", last.ask(4, 0), 77);
        RidgeClaps same = States.flat(40);
        same.lay(0, 1, 0);
        edges.is("a place behind a place", same.lay(0, 1, 0), 1);
        RidgeClaps empty = States.rich();
        edges.is("a sheet without places is a sheet", empty.lay(4, 2, 2), 2);
        RidgeClaps others = States.rich();
        others.lay(2, 3, 8);
        edges.is("the other slots stay: 1", others.ask(1, 0), 212);
        edges.is("the other slots stay: 3", others.rest(3, 100), -11);
    }

    private static void layRefused() {
        edges.of(31, "BAD: slot, thing, k;");
        for (int slot : NO_SLOT) {
            for (int thing = 0; thing <= 3; thing++) {
                int each = thing;
                edges.refused("slot " + slot + ", thing " + thing, States.RICH, x -> x.lay(slot, each, 0), BAD);
            }
            edges.refused("slot " + slot + ", ahead of nothing", States.RICH, x -> x.lay(slot, 2, 3), BAD);
        }
        for (int thing : new int[] {-1, 4, MIN, MAX, NONE}) {
            edges.refused("thing " + thing, States.RICH, x -> x.lay(3, thing, 0), BAD);
        }
        for (int k : new int[] {-1, 7, 24, MIN, MAX, NONE}) {
            edges.refused("place " + k, States.RICH, x -> x.lay(3, 1, k), BAD);
        }
        for (int k : NO_SHEET) {
            edges.refused("sheet " + k, States.RICH, x -> x.lay(3, 2, k), BAD);
        }
        edges.refused("place 0 of none", States.NEW, x -> x.lay(0, 1, 0), BAD);
        edges.of(31, "NOTHING: that SHEET is MISSING.");
        for (int slot = 0; slot < 5; slot++) {
            int each = slot;
            edges.refused("slot " + slot, States.RICH, x -> x.lay(each, 2, 3), NOTHING);
        }
        RidgeClaps x = States.rich();
        x.sheet(1, -1, 0);
        edges.is("a sheet that was there", x.lay(0, 2, 1), NOTHING);
    }

    private static void ask() {
        edges.of(32, "WORTH (by its own KIND) of the PLACE in a SLOT, taken for one of a KIND (0 .. 5).");
        int[] worths = {40, 47, 60, 94, 40, 20};
        boolean[][] isOf = {
            {true, false, false, false, false, false}, {true, true, false, false, false, false},
            {true, false, true, false, false, false}, {true, true, false, true, false, false},
            {true, false, true, false, true, false}, {true, false, false, false, false, true}};
        for (int own = 0; own < 6; own++) {
            for (int kind = 0; kind < 6; kind++) {
                if (isOf[own][kind]) {
                    edges.is("kind " + own + " for " + kind, slotOf(own).ask(0, kind), worths[own]);
                }
            }
        }
        edges.of(32, "BAD;");
        for (int slot : NO_SLOT) {
            edges.refused("slot " + slot, States.RICH, x -> x.ask(slot, 0), BAD);
        }
        for (int kind : new int[] {-1, 6, MIN, MAX, NONE}) {
            edges.refused("kind " + kind, States.RICH, x -> x.ask(1, kind), BAD);
            edges.refused("kind " + kind + ", ahead of nothing", States.RICH, x -> x.ask(0, kind), BAD);
            edges.refused("kind " + kind + ", ahead of kind", States.RICH, x -> x.ask(2, kind), BAD);
        }
        edges.of(32, "NOTHING;");
        for (int slot = 0; slot < 5; slot++) {
            int each = slot;
            edges.refused("slot " + slot + " at first", States.NEW, x -> x.ask(each, 5), NOTHING);
        }
        edges.of(32, "KIND: it is no PLACE, or not of that KIND, nor of one under it.");
        for (int kind = 0; kind < 6; kind++) {
            int each = kind;
            edges.refused("a sheet for " + kind, States.RICH, x -> x.ask(2, each), KIND);
            edges.refused("a number for " + kind, States.RICH, x -> x.ask(3, each), KIND);
            for (int own = 0; own < 6; own++) {
                if (!isOf[own][kind]) {
                    edges.is("kind " + own + " for " + kind, slotOf(own).ask(0, kind), KIND);
                }
            }
        }
    }

    /** A PLACE of a KIND, 40 high, in SLOT 0; the PLACE itself is otherwise by now. */
    private static RidgeClaps slotOf(int kind) {
        RidgeClaps x = new RidgeClaps();
        x.place(kind, 40);
        x.lay(0, 1, 0);
        x.turns(0, (kind + 1) % 6);
        x.set(0, 1, 3);
        return x;
    }

    private static void item() {
        edges.of(33, "A place of the SHEET in a SLOT.");
        int[] all = new int[24];
        all[0] = -99999;
        all[23] = 99999;
        RidgeClaps x = row(1, all);
        x.lay(4, 2, 0);
        edges.is("the first place", x.item(4, 0), -99999);
        edges.is("the last of 24", x.item(4, 23), 99999);
        edges.of(33, "BAD: slot;");
        for (int slot : NO_SLOT) {
            edges.refused("slot " + slot, States.RICH, r -> r.item(slot, 0), BAD);
        }
        edges.of(33, "NOTHING;");
        edges.refused("slot 0", States.RICH, r -> r.item(0, 0), NOTHING);
        edges.refused("slot 0, ahead of index", States.RICH, r -> r.item(0, -1), NOTHING);
        for (int slot = 0; slot < 5; slot++) {
            int each = slot;
            edges.refused("slot " + slot + " at first", States.NEW, r -> r.item(each, 0), NOTHING);
        }
        edges.of(33, "KIND: it is no SHEET;");
        edges.refused("a place", States.RICH, r -> r.item(1, 0), KIND);
        edges.refused("a place, ahead of index", States.RICH, r -> r.item(1, -1), KIND);
        edges.refused("a number", States.RICH, r -> r.item(3, 0), KIND);
        edges.refused("a number, ahead of index", States.RICH, r -> r.item(3, 99), KIND);
        edges.of(33, "INDEX;");
        for (int place : new int[] {-1, 6, 23, 24, MIN, MAX, NONE}) {
            edges.refused("place " + place + " of 6", States.RICH, r -> r.item(2, place), INDEX);
        }
        edges.refused("place 0 of none", States.RICH, r -> r.item(4, 0), INDEX);
        edges.is("place 24 of 24", x.item(4, 24), INDEX);
        edges.of(33, "KIND: NO NUMBER.");
        edges.refused("in the middle", States.RICH, r -> r.item(2, 1), KIND);
        edges.refused("at the last place", States.RICH, r -> r.item(2, 5), KIND);
    }

    private static int restOf(int number, int n) {
        RidgeClaps x = new RidgeClaps();
        x.lay(4, 3, number);
        return x.rest(4, n);
    }

    private static void rest() {
        edges.of(34, "The rest (Java's %) of the number in a SLOT by n.");
        int[][] rests = {{7, 3, 1}, {-7, 3, -1}, {7, -3, 1}, {-7, -3, -1}, {0, 5, 0}, {5, 5, 0}, {5, 6, 5}, {5, 1, 0}, {5, -1, 0},
            {MIN, -1, 0}, {MIN, 1, 0}, {MIN, MIN, 0}, {MAX, MIN, MAX}, {MIN, MAX, -1}, {MAX, -1, 0}, {-1, MAX, -1}};
        for (int[] r : rests) {
            edges.is(r[0] + " by " + r[1], restOf(r[0], r[1]), r[2]);
        }
        edges.of(34, "BAD: slot;");
        for (int slot : NO_SLOT) {
            edges.refused("slot " + slot, States.RICH, x -> x.rest(slot, 1), BAD);
            edges.refused("slot " + slot + ", ahead of by 0", States.RICH, x -> x.rest(slot, 0), BAD);
        }
        edges.of(34, "NOTHING;");
        edges.refused("slot 0", States.RICH, x -> x.rest(0, 1), NOTHING);
        edges.refused("slot 0, ahead of by 0", States.RICH, x -> x.rest(0, 0), NOTHING);
        edges.of(34, "KIND: it is no number;");
        edges.refused("a place", States.RICH, x -> x.rest(1, 1), KIND);
        edges.refused("a place, ahead of by 0", States.RICH, x -> x.rest(1, 0), KIND);
        edges.refused("a sheet", States.RICH, x -> x.rest(2, 1), KIND);
        edges.refused("a sheet, ahead of by 0", States.RICH, x -> x.rest(2, 0), KIND);
        edges.of(34, "NO: n is 0.");
        edges.refused("a number", States.RICH, x -> x.rest(3, 0), NO);
        edges.is("the number 0", restOf(0, 0), NO);
    }
}
