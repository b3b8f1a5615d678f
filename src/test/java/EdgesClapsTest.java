import java.util.function.Supplier;

/** The boundary cases of promises 19 and 20: claps. */
public final class EdgesClapsTest {
    private static final int BAD = RidgeClaps.BAD, NONE = RidgeClaps.NONE, NOTHING = RidgeClaps.NOTHING;
    private static final int MIN = States.MIN, MAX = States.MAX;
    private static final int[] NO_SHEET = {-1, 4, MIN, MAX, NONE};
    private static final Supplier<RidgeClaps> UNHEARD = EdgesClapsTest::unheard;
    private static final Edges edges = new Edges("EdgesClapsTest");

    public static void main(String[] args) {
        claps();
        clapsRefused();
        hear();
        hearRefused();
        edges.end(19, 20);
    }

    private static RidgeClaps floats(int... values) {
        return States.fill(new RidgeClaps(), 3, 1, values);
    }

    private static RidgeClaps shorts(int... values) {
        return States.fill(new RidgeClaps(), 0, 0, values);
    }

    /** As rich; SHEET 0 has no places, SHEET 1 NO NUMBER at all of its places, SHEET 3 is MISSING. */
    private static RidgeClaps unheard() {
        RidgeClaps x = States.rich();
        States.fill(x, 0, 0);
        States.fill(x, 1, 1, NONE, NONE, NONE);
        return x;
    }

    private static void claps() {
        edges.of(19, "Of CLAPS: what 0 HOW FAR, 1 COMES, 2 by which PACE they are EXPLAINED, 3 the differences with it.");
        int[] due = {18, 3, 2, 1};
        for (int what = 0; what <= 3; what++) {
            edges.is("what " + what, floats(78, 72, NONE, 60, 55).claps(3, what), due[what]);
            edges.is("one clap alone, what " + what, floats(NONE, 7, NONE).claps(3, what), new int[] {2, 0, -9, 1}[what]);
            edges.is("one clap 0, what " + what, shorts(0).claps(0, what), new int[] {0, 0, -9, 0}[what]);
        }
        edges.is("the lowest short", shorts(-32768).claps(0, 0), -10922);
        edges.is("the highest float", floats(99999).claps(3, 0), 33333);
        edges.is("the highest floats, 24 of them", many(99999).claps(3, 3), 24 * (99999 - 297));
        edges.is("the lowest floats, 24 of them", many(-99999).claps(3, 3), 24 * 99999);
        edges.same("nothing changes", () -> {
            RidgeClaps x = States.rich();
            for (int what = 0; what <= 3; what++) {
                x.claps(1, what);
            }
            return x;
        }, States.RICH);
    }

    private static RidgeClaps many(int each) {
        int[] values = new int[24];
        java.util.Arrays.fill(values, each);
        return floats(values);
    }

    private static void clapsRefused() {
        edges.of(19, "BAD;");
        for (int sheet : NO_SHEET) {
            edges.refused("sheet " + sheet, States.RICH, x -> x.claps(sheet, 0), BAD);
        }
        for (int what : new int[] {-1, 4, MIN, MAX, NONE}) {
            edges.refused("what " + what, States.RICH, x -> x.claps(0, what), BAD);
            edges.refused("what " + what + ", ahead of nothing", States.RICH, x -> x.claps(3, what), BAD);
            edges.refused("what " + what + ", ahead of none", States.RICH, x -> x.claps(2, what), BAD);
        }
        edges.of(19, "NOTHING;");
        for (int what = 0; what <= 3; what++) {
            int each = what;
            edges.refused("missing, what " + what, States.RICH, x -> x.claps(3, each), NOTHING);
        }
        edges.of(19, "NONE: there are none.");
        for (int what = 0; what <= 3; what++) {
            int each = what;
            edges.refused("no places of shorts, what " + what, UNHEARD, x -> x.claps(0, each), NONE);
            edges.refused("no places of floats, what " + what, UNHEARD, x -> x.claps(2, each), NONE);
            edges.refused("no number, what " + what, UNHEARD, x -> x.claps(1, each), NONE);
        }
    }

    private static void hear() {
        edges.of(20, "THE STORM becomes as CLAPS tell: FAR is HOW FAR (held within 0 .. 99), PACE that by which they are EXPLAINED: FAR.");
        int[][] held = {{299, 99}, {300, 99}, {297, 99}, {296, 98}, {99999, 99}, {3, 1}, {2, 0}, {0, 0}, {-1, 0}, {-3, 0}, {-99999, 0}};
        for (int[] h : held) {
            RidgeClaps x = floats(h[0]);
            edges.is("a clap of " + h[0], x.hear(3), h[1]);
            edges.is("a clap of " + h[0] + ": far", x.count(3), h[1]);
            edges.is("a clap of " + h[0] + ": pace", x.count(4), -9);
        }
        for (int pace : new int[] {-9, 0, 9}) {
            RidgeClaps x = floats(150, 150 - 3 * pace);
            edges.is("far by the last of them, pace " + pace, x.hear(3), 50 - pace);
            edges.is("pace " + pace, x.count(4), pace);
        }
        RidgeClaps again = States.rich();
        again.hear(0);
        edges.is("the minute stays", again.count(2), States.rich().count(2));
        edges.is("the sheet stays", again.claps(0, 0), 1);
    }

    private static void hearRefused() {
        edges.of(20, "BAD;");
        for (int sheet : NO_SHEET) {
            edges.refused("sheet " + sheet, States.RICH, x -> x.hear(sheet), BAD);
        }
        edges.of(20, "NOTHING;");
        edges.refused("missing", States.RICH, x -> x.hear(3), NOTHING);
        for (int sheet = 0; sheet < 4; sheet++) {
            int each = sheet;
            edges.refused("missing at first, sheet " + sheet, States.NEW, x -> x.hear(each), NOTHING);
        }
        edges.of(20, "NONE: there are none.");
        edges.refused("no places of shorts", UNHEARD, x -> x.hear(0), NONE);
        edges.refused("no places of floats", UNHEARD, x -> x.hear(2), NONE);
        edges.refused("no number", UNHEARD, x -> x.hear(1), NONE);
    }
}
