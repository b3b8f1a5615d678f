import java.util.List;

/** The boundary cases of promises 1 to 11: a new object, places, the storm. */
public final class EdgesPlacesTest {
    private static final int BAD = RidgeClaps.BAD, NO = RidgeClaps.NO, FULL = RidgeClaps.FULL, NONE = RidgeClaps.NONE;
    private static final int NOTHING = RidgeClaps.NOTHING, KIND = RidgeClaps.KIND;
    private static final int MIN = States.MIN, MAX = States.MAX;
    private static final int[] NO_PLACE_OF_SEVEN = {-1, 7, 23, 24, MIN, MAX, NONE};
    private static final int[] NO_KIND = {-1, 6, 7, MIN, MAX, NONE};
    private static final Edges edges = new Edges("EdgesPlacesTest");

    public static void main(String[] args) {
        newObject();
        place();
        placeRefused();
        told();
        as();
        turns();
        set();
        setRefused();
        deal();
        seed();
        storm();
        sky();
        danger();
        edges.end(1, 11);
    }

    private static void newObject() {
        edges.of(1, "As told;");
        int[] counts = {0, NONE, 0, 60, 2, 0, 0, 0, 0, 0, 1};
        for (int what = 0; what < counts.length; what++) {
            edges.is("count(" + what + ") at first", new RidgeClaps().count(what), counts[what]);
        }
        for (int sheet = 0; sheet < 4; sheet++) {
            edges.is("sheet " + sheet + " is missing at first", new RidgeClaps().reads(sheet), NOTHING);
        }
        for (int slot = 0; slot < 5; slot++) {
            edges.is("slot " + slot + " holds nothing at first", new RidgeClaps().lay(slot, 0, 0), 0);
        }
        for (int key = 0; key < 3; key++) {
            edges.is("no text counts for key " + key + " at first", new RidgeClaps().why(key), NONE);
        }
        edges.is("no image at first", new RidgeClaps().back(), NO);
        edges.is("the tape is empty at first", new RidgeClaps().text(), -100);
        List<Integer> before = Whole.of(States.NEW);
        States.crowded();
        edges.is("a new object beside a used one is the same", Whole.of(States.NEW).equals(before) ? 1 : 0, 1);
        edges.of(1, "no PLACES.");
        edges.is("none are counted", new RidgeClaps().count(0), 0);
        edges.refused("place 0 is none: told", States.NEW, x -> x.told(0, 0), BAD);
        edges.refused("place 0 is none: as", States.NEW, x -> x.as(0, 0), BAD);
        edges.refused("place 0 is none: come", States.NEW, x -> x.come(0), BAD);
    }

    private static void place() {
        edges.of(2, "One more PLACE behind the others: its number.");
        edges.is("the first is 0", new RidgeClaps().place(0, 0), 0);
        edges.is("the second is 1", States.flat(10).place(0, 0), 1);
        RidgeClaps x = States.flat(new int[23]);
        edges.is("the 24th is 23", x.place(5, 99), 23);
        edges.is("the 24th is counted", x.count(0), 24);
        edges.is("the 24th has its kind", x.told(23, 0), 5);
        edges.is("the 24th has its height", x.told(23, 1), 99);
        edges.is("the 24th is not down", x.told(23, 2), 0);
        RidgeClaps low = new RidgeClaps();
        low.place(0, 0);
        edges.is("kind 0 may be", low.told(0, 0), 0);
        edges.is("height 0 may be", low.told(0, 1), 0);
        edges.is("it is not down", low.told(0, 2), 0);
        for (int kind = 0; kind <= 5; kind++) {
            RidgeClaps each = new RidgeClaps();
            each.place(kind, 99);
            edges.is("kind " + kind + " stays what it is", each.told(0, 0), kind);
        }
        RidgeClaps behind = States.flat(10, 20);
        behind.place(0, 30);
        edges.is("the others stay", behind.told(0, 1) + behind.told(1, 1), 30);
        RidgeClaps again = new RidgeClaps();
        again.keep();
        again.place(1, 1);
        again.set(0, 2, 1);
        again.back();
        edges.is("behind an image without places it is the first again", again.place(0, 5), 0);
        edges.is("a place where another one was down is not down", again.told(0, 2), 0);
    }

    private static void placeRefused() {
        edges.of(2, "BAD;");
        for (int kind : NO_KIND) {
            edges.refused("kind " + kind, States.RICH, x -> x.place(kind, 5), BAD);
        }
        for (int height : new int[] {-1, 100, 101, MIN, MAX, NONE}) {
            edges.refused("height " + height, States.RICH, x -> x.place(0, height), BAD);
        }
        edges.refused("kind, ahead of full", States.CROWDED, x -> x.place(6, 5), BAD);
        edges.refused("height, ahead of full", States.CROWDED, x -> x.place(0, 100), BAD);
        edges.of(2, "FULL.");
        edges.refused("there are 24", States.CROWDED, x -> x.place(0, 5), FULL);
        RidgeClaps x = States.flat(new int[24]);
        edges.is("there are 24, all told one by one", x.place(5, 99), FULL);
        edges.is("there are 24 still", x.count(0), 24);
        RidgeClaps y = new RidgeClaps();
        y.place(0, 1);
        y.keep();
        y.deal(24);
        y.place(0, 1);
        y.back();
        edges.is("room again behind the image", y.place(0, 2), 1);
    }

    private static void told() {
        edges.of(3, "Of a PLACE: what 0 KIND, 1 HEIGHT, 2 DOWN (1, 0), 3 RISK, 4 WORTH.");
        int[] first = {0, 51, 0, 5, 51};
        int[] last = {1, 7, 1, 16, 14};
        for (int what = 0; what <= 4; what++) {
            edges.is("the first place, what " + what, States.rich().told(0, what), first[what]);
            edges.is("the last place, what " + what, States.rich().told(6, what), last[what]);
        }
        edges.is("place 23 of 24", States.crowded().told(23, 0) >= 0 ? 1 : 0, 1);
        edges.same("asking changes nothing", () -> {
            RidgeClaps x = States.rich();
            for (int what = 0; what <= 4; what++) {
                x.told(0, what);
            }
            return x;
        }, States.RICH);
        edges.of(3, "BAD.");
        for (int place : NO_PLACE_OF_SEVEN) {
            edges.refused("place " + place, States.RICH, x -> x.told(place, 0), BAD);
        }
        for (int what : new int[] {-1, 5, 6, MIN, MAX, NONE}) {
            edges.refused("what " + what, States.RICH, x -> x.told(0, what), BAD);
        }
        edges.refused("place 24 of 24", States.CROWDED, x -> x.told(24, 0), BAD);
    }

    /** Whether a place of the first kind is one of the second, too. */
    private static final boolean[][] IS_OF = {
        {true, false, false, false, false, false}, {true, true, false, false, false, false},
        {true, false, true, false, false, false}, {true, true, false, true, false, false},
        {true, false, true, false, true, false}, {true, false, false, false, false, true}};

    private static RidgeClaps eachKind() {
        RidgeClaps x = new RidgeClaps();
        for (int kind = 0; kind < 6; kind++) {
            x.place(kind, 10 + kind);
        }
        return x;
    }

    private static void as() {
        edges.of(4, "A PLACE as one of a KIND: HEIGHT.");
        for (int own = 0; own < 6; own++) {
            for (int kind = 0; kind < 6; kind++) {
                if (IS_OF[own][kind]) {
                    edges.is("kind " + own + " as " + kind, eachKind().as(own, kind), 10 + own);
                }
            }
        }
        edges.is("height 0", States.flat(0).as(0, 0), 0);
        edges.is("height 99", States.flat(99).as(0, 0), 99);
        edges.of(4, "BAD: place, kind;");
        for (int place : NO_PLACE_OF_SEVEN) {
            edges.refused("place " + place, States.RICH, x -> x.as(place, 0), BAD);
            edges.refused("place " + place + ", of any kind", States.RICH, x -> x.as(place, 5), BAD);
        }
        for (int kind : NO_KIND) {
            edges.refused("kind " + kind, States.RICH, x -> x.as(2, kind), BAD);
        }
        edges.of(4, "KIND: it is not of that KIND, nor of one under it.");
        for (int own = 0; own < 6; own++) {
            for (int kind = 0; kind < 6; kind++) {
                if (!IS_OF[own][kind]) {
                    edges.is("kind " + own + " as " + kind, eachKind().as(own, kind), KIND);
                }
            }
        }
        edges.refused("a crest is no spire", States.RICH, x -> x.as(1, 3), KIND);
        RidgeClaps x = States.flat(50);
        x.turns(0, 3);
        edges.is("it is of its new kind", x.as(0, 1), 50);
        x.turns(0, 4);
        edges.is("it is of its old kind no more", x.as(0, 1), KIND);
    }

    private static void turns() {
        edges.of(5, "A PLACE is of another KIND (or the same) from now on: what it was.");
        for (int kind = 0; kind < 6; kind++) {
            RidgeClaps x = eachKind();
            x.set(kind, 2, 1);
            edges.is("the same, " + kind, x.turns(kind, kind), kind);
            edges.is("the same stays, " + kind, x.told(kind, 0), kind);
            edges.is("from " + kind + " to 0", x.turns(kind, 0), kind);
            edges.is("from 0 to 5, behind " + kind, x.turns(kind, 5), 0);
            edges.is("it is 5 then, behind " + kind, x.told(kind, 0), 5);
            edges.is("height stays, behind " + kind, x.told(kind, 1), 10 + kind);
            edges.is("down stays, behind " + kind, x.told(kind, 2), 1);
        }
        RidgeClaps last = States.flat(new int[24]);
        edges.is("place 23", last.turns(23, 4), 0);
        edges.is("place 22 stays", last.told(22, 0), 0);
        edges.is("place 23 is of it", last.told(23, 0), 4);
        edges.of(5, "BAD.");
        for (int place : NO_PLACE_OF_SEVEN) {
            edges.refused("place " + place, States.RICH, x -> x.turns(place, 1), BAD);
        }
        for (int kind : NO_KIND) {
            edges.refused("kind " + kind, States.RICH, x -> x.turns(0, kind), BAD);
        }
        edges.refused("no places", States.NEW, x -> x.turns(0, 0), BAD);
    }

    private static void set() {
        edges.of(6, "HEIGHT (what 1), DOWN (2: 0, 1) of a PLACE becomes v: what it was.");
        RidgeClaps x = States.flat(50, 60);
        edges.is("height 0", x.set(0, 1, 0), 50);
        edges.is("height 0 stands", x.told(0, 1), 0);
        edges.is("height 99", x.set(0, 1, 99), 0);
        edges.is("height 99 stands", x.told(0, 1), 99);
        edges.is("the same height", x.set(0, 1, 99), 99);
        edges.is("down stays", x.told(0, 2), 0);
        edges.is("the other place stays", x.told(1, 1), 60);
        edges.is("down 1", x.set(1, 2, 1), 0);
        edges.is("down 1 stands", x.told(1, 2), 1);
        edges.is("down 1 again", x.set(1, 2, 1), 1);
        edges.is("down 0", x.set(1, 2, 0), 1);
        edges.is("down 0 stands", x.told(1, 2), 0);
        edges.is("down 0 again", x.set(1, 2, 0), 0);
        edges.is("height stays", x.told(1, 1), 60);
        RidgeClaps last = States.flat(new int[24]);
        last.set(23, 1, 7);
        edges.is("place 23", last.told(23, 1), 7);
        edges.is("place 22 stays", last.told(22, 1), 0);
    }

    private static void setRefused() {
        edges.of(6, "BAD.");
        for (int place : NO_PLACE_OF_SEVEN) {
            edges.refused("height of place " + place, States.RICH, x -> x.set(place, 1, 1), BAD);
            edges.refused("down of place " + place, States.RICH, x -> x.set(place, 2, 1), BAD);
        }
        for (int what : new int[] {0, 3, 4, -1, -2, MIN, MAX, NONE}) {
            edges.refused("what " + what, States.RICH, x -> x.set(0, what, 1), BAD);
            edges.refused("what " + what + " with 0", States.RICH, x -> x.set(0, what, 0), BAD);
        }
        for (int v : new int[] {-1, 100, MIN, MAX, NONE}) {
            edges.refused("height " + v, States.RICH, x -> x.set(0, 1, v), BAD);
        }
        for (int v : new int[] {-1, 2, 99, MIN, MAX, NONE}) {
            edges.refused("down " + v, States.RICH, x -> x.set(0, 2, v), BAD);
        }
    }

    private static int drawn(int z) {
        return z * 1103515245 + 12345;
    }

    private static int drawn(int z, int times) {
        int now = z;
        for (int i = 0; i < times; i++) {
            now = drawn(now);
        }
        return now;
    }

    private static void deal() {
        edges.of(7, "PLACES are drawn, n (1 .. 24) of them,");
        RidgeClaps one = new RidgeClaps();
        edges.is("n 1", one.deal(1), 1);
        edges.is("n 1: three draws", one.count(10), drawn(1, 3));
        RidgeClaps all = new RidgeClaps();
        edges.is("n 24", all.deal(24), 24);
        edges.is("n 24: 72 draws", all.count(10), drawn(1, 72));
        edges.is("n 24: all there", all.count(0), 24);
        edges.of(7, "as many as there is room for (no draws for others): how many came.");
        RidgeClaps x = States.flat(new int[23]);
        edges.is("room for one alone", x.deal(24), 1);
        edges.is("room for one alone: three draws", x.count(10), drawn(1, 3));
        edges.is("room for one alone: 24 places", x.count(0), 24);
        edges.is("no room", x.deal(1), 0);
        edges.is("no room: no draws", x.count(10), drawn(1, 3));
        edges.is("no room for 24", x.deal(24), 0);
        edges.is("no room for 24: no draws", x.count(10), drawn(1, 3));
        RidgeClaps y = States.flat(new int[20]);
        edges.is("just room", y.deal(4), 4);
        RidgeClaps z = States.flat(new int[20]);
        edges.is("one too many", z.deal(5), 4);
        edges.is("one too many: twelve draws", z.count(10), drawn(1, 12));
        edges.same("no room: nothing changes", () -> {
            RidgeClaps c = States.crowded();
            c.deal(24);
            return c;
        }, States.CROWDED);
        edges.of(7, "BAD.");
        for (int n : new int[] {0, -1, 25, MIN, MAX, NONE}) {
            edges.refused("n " + n, States.RICH, r -> r.deal(n), BAD);
        }
        edges.refused("n 0 without room", States.CROWDED, c -> c.deal(0), BAD);
        edges.refused("n 25 without room", States.CROWDED, c -> c.deal(25), BAD);
    }

    private static void seed() {
        edges.of(8, "z becomes v: what it was.");
        edges.is("at first it was 1", new RidgeClaps().seed(5), 1);
        for (int v : new int[] {0, 1, -1, MIN, MAX, NONE, BAD}) {
            RidgeClaps x = new RidgeClaps();
            x.seed(v);
            edges.is("z is " + v, x.count(10), v);
            edges.is("it was " + v, x.seed(9), v);
        }
        RidgeClaps x = new RidgeClaps();
        x.seed(MIN);
        x.deal(1);
        edges.is("draws go on from it", x.count(10), drawn(MIN, 3));
    }

    private static void storm() {
        edges.of(9, "FAR (what 0), PACE (1) becomes v: what it was.");
        RidgeClaps x = new RidgeClaps();
        edges.is("far 0", x.storm(0, 0), 60);
        edges.is("far 0 stands", x.count(3), 0);
        edges.is("far 99", x.storm(0, 99), 0);
        edges.is("far 99 stands", x.count(3), 99);
        edges.is("pace stays", x.count(4), 2);
        edges.is("pace -9", x.storm(1, -9), 2);
        edges.is("pace -9 stands", x.count(4), -9);
        edges.is("pace 9", x.storm(1, 9), -9);
        edges.is("pace 9 stands", x.count(4), 9);
        edges.is("pace 0", x.storm(1, 0), 9);
        edges.is("pace 0 stands", x.count(4), 0);
        edges.is("far stays", x.count(3), 99);
        edges.is("the same", x.storm(0, 99), 99);
        edges.of(9, "BAD.");
        for (int v : new int[] {-1, 100, -9, MIN, MAX, NONE}) {
            edges.refused("far " + v, States.RICH, r -> r.storm(0, v), BAD);
        }
        for (int v : new int[] {-10, 10, 99, MIN, MAX, NONE}) {
            edges.refused("pace " + v, States.RICH, r -> r.storm(1, v), BAD);
        }
        for (int what : new int[] {-1, 2, MIN, MAX, NONE}) {
            edges.refused("what " + what, States.RICH, r -> r.storm(what, 1), BAD);
        }
    }

    private static void sky() {
        edges.of(10, "t (0 .. 60) minutes on: what 0 FAR, 1 ODDS.");
        RidgeClaps x = new RidgeClaps();
        x.storm(0, 80);
        x.storm(1, 1);
        edges.is("far, t 0", x.sky(0, 0), 80);
        edges.is("odds, t 0", x.sky(0, 1), 0);
        edges.is("far, t 60", x.sky(60, 0), 20);
        edges.is("odds, t 60", x.sky(60, 1), 40);
        edges.is("far is as it was", x.count(3), 80);
        edges.of(10, "BAD.");
        for (int t : new int[] {-1, 61, MIN, MAX, NONE}) {
            edges.refused("far, t " + t, States.RICH, r -> r.sky(t, 0), BAD);
            edges.refused("odds, t " + t, States.RICH, r -> r.sky(t, 1), BAD);
        }
        for (int what : new int[] {-1, 2, MIN, MAX, NONE}) {
            edges.refused("what " + what, States.RICH, r -> r.sky(0, what), BAD);
        }
    }

    private static void danger() {
        edges.of(11, "DANGER of a PLACE t (0 .. 60) minutes on.");
        RidgeClaps x = States.flat(99, 9, 50);
        x.storm(0, 80);
        x.storm(1, 1);
        edges.is("t 0", x.danger(0, 0), 0);
        edges.is("t 60, the first place", x.danger(0, 60), 9 * 40);
        edges.is("t 60, risk 0", x.danger(1, 60), 0);
        edges.is("t 60, the last place", x.danger(2, 60), 5 * 40);
        RidgeClaps most = States.risks(99);
        most.turns(0, 3);
        edges.is("the most there is", most.danger(0, 0), 218 * 100);
        edges.of(11, "BAD.");
        for (int place : NO_PLACE_OF_SEVEN) {
            edges.refused("place " + place, States.RICH, r -> r.danger(place, 0), BAD);
        }
        for (int t : new int[] {-1, 61, MIN, MAX, NONE}) {
            edges.refused("t " + t, States.RICH, r -> r.danger(0, t), BAD);
        }
        edges.refused("no places", States.NEW, r -> r.danger(0, 0), BAD);
    }
}
