/** Promises 1 to 11: a new object, places, the storm. */
public final class PlacesTest {
    private static final int BAD = RidgeClaps.BAD, FULL = RidgeClaps.FULL, NONE = RidgeClaps.NONE, KIND = RidgeClaps.KIND;
    private static final int MIN = Integer.MIN_VALUE, MAX = Integer.MAX_VALUE;
    private static final Due due = new Due("PlacesTest");

    public static void main(String[] args) {
        newObject();
        place();
        told();
        risksAndWorths();
        as();
        turnsAndSet();
        deal();
        seed();
        storm();
        sky();
        danger();
        due.end();
    }

    private static void newObject() {
        RidgeClaps x = new RidgeClaps();
        int[] counts = {0, NONE, 0, 60, 2, 0, 0, 0, 0, 0, 1};
        for (int what = 0; what < counts.length; what++) {
            due.is("1 count(" + what + ")", x.count(what), counts[what]);
        }
        due.is("1 told(0, 0)", x.told(0, 0), BAD);
        for (int slot = 0; slot < 5; slot++) {
            due.is("1 ask", x.ask(slot, 0), RidgeClaps.NOTHING);
        }
        for (int sheet = 0; sheet < 4; sheet++) {
            due.is("1 pour", x.pour(sheet), RidgeClaps.NOTHING);
        }
        due.is("1 back", x.back(), RidgeClaps.NO);
        for (int key = 0; key < 3; key++) {
            due.is("1 why", x.why(key), NONE);
        }
    }

    private static void place() {
        RidgeClaps x = new RidgeClaps();
        int[][] wrong = {{-1, 0}, {6, 0}, {0, -1}, {0, 100}, {MIN, 0}, {MAX, 0}, {0, MIN}, {0, MAX}};
        for (int[] w : wrong) {
            due.is("2 place", x.place(w[0], w[1]), BAD);
        }
        due.is("2 none came", x.count(0), 0);
        for (int i = 0; i < 24; i++) {
            due.is("2 place", x.place(i % 6, i % 2 == 0 ? 0 : 99), i);
            due.is("2 kind", x.told(i, 0), i % 6);
            due.is("2 height", x.told(i, 1), i % 2 == 0 ? 0 : 99);
            due.is("2 down", x.told(i, 2), 0);
        }
        due.is("2 full", x.place(0, 1), FULL);
        due.is("2 bad ahead of full", x.place(6, 1), BAD);
        due.is("2 bad ahead of full", x.place(0, 100), BAD);
        due.is("2 count", x.count(0), 24);
    }

    private static void told() {
        RidgeClaps x = new RidgeClaps();
        x.place(3, 57);
        due.is("3 kind", x.told(0, 0), 3);
        due.is("3 height", x.told(0, 1), 57);
        due.is("3 down", x.told(0, 2), 0);
        x.set(0, 2, 1);
        due.is("3 down", x.told(0, 2), 1);
        due.is("3 risk", x.told(0, 3), 30);
        due.is("3 worth", x.told(0, 4), 128);
        int[][] wrong = {{-1, 0}, {1, 0}, {24, 0}, {0, -1}, {0, 5}, {MIN, 0}, {MAX, 0}, {0, MIN}, {0, MAX}, {NONE, 0}};
        for (int[] w : wrong) {
            due.is("3 told(" + w[0] + ", " + w[1] + ")", x.told(w[0], w[1]), BAD);
        }
    }

    private static void risksAndWorths() {
        int[] heights = {0, 9, 10, 19, 55, 99};
        int[][] risks = {
            {0, 0, 1, 1, 5, 9}, {10, 10, 11, 11, 15, 19}, {0, 0, 0, 0, 2, 4},
            {20, 20, 22, 22, 30, 38}, {5, 5, 5, 5, 7, 9}, {20, 20, 21, 21, 25, 29}};
        int[][] worths = {
            {0, 9, 10, 19, 55, 99}, {7, 16, 17, 26, 62, 106}, {100, 91, 90, 81, 45, 1},
            {14, 32, 34, 52, 124, 212}, {80, 71, 70, 61, 25, -19}, {0, 4, 5, 9, 27, 49}};
        for (int kind = 0; kind < 6; kind++) {
            RidgeClaps x = new RidgeClaps();
            for (int i = 0; i < heights.length; i++) {
                x.place(kind, heights[i]);
                due.is("3 risk of kind " + kind, x.told(i, 3), risks[kind][i]);
                due.is("3 worth of kind " + kind, x.told(i, 4), worths[kind][i]);
            }
        }
        int[] most = {99, 109, 49, 218, 54, 119};
        int[] least = {0, 10, 0, 20, 5, 20};
        for (int kind = 0; kind < 6; kind++) {
            RidgeClaps x = new RidgeClaps();
            x.place(kind, 50);
            Due.text(x, "risk h*9");
            due.is("3 a high risk is held as PLACE alone", x.told(0, 3), most[kind]);
            Due.text(x, "risk 0-h");
            due.is("3 a low risk is held as PLACE alone", x.told(0, 3), least[kind]);
        }
    }

    private static void as() {
        RidgeClaps x = new RidgeClaps();
        for (int kind = 0; kind < 6; kind++) {
            x.place(kind, 10 + kind);
        }
        boolean[][] isOf = {
            {true, false, false, false, false, false}, {true, true, false, false, false, false},
            {true, false, true, false, false, false}, {true, true, false, true, false, false},
            {true, false, true, false, true, false}, {true, false, false, false, false, true}};
        for (int own = 0; own < 6; own++) {
            for (int kind = 0; kind < 6; kind++) {
                due.is("4 as(" + own + ", " + kind + ")", x.as(own, kind), isOf[own][kind] ? 10 + own : KIND);
            }
        }
        int[][] wrong = {{-1, 0}, {6, 0}, {0, -1}, {0, 6}, {MIN, MIN}, {MAX, MAX}};
        for (int[] w : wrong) {
            due.is("4 as", x.as(w[0], w[1]), BAD);
        }
    }

    private static void turnsAndSet() {
        RidgeClaps x = new RidgeClaps();
        x.place(1, 20);
        due.is("5 turns", x.turns(0, 4), 1);
        due.is("5 turns", x.turns(0, 4), 4);
        due.is("5 kind", x.told(0, 0), 4);
        due.is("5 height stays", x.told(0, 1), 20);
        int[][] wrongTurns = {{-1, 0}, {1, 0}, {0, -1}, {0, 6}, {MIN, 0}, {0, MAX}};
        for (int[] w : wrongTurns) {
            due.is("5 turns", x.turns(w[0], w[1]), BAD);
        }
        due.is("5 kind", x.told(0, 0), 4);
        due.is("6 height", x.set(0, 1, 99), 20);
        due.is("6 height", x.set(0, 1, 0), 99);
        due.is("6 down", x.set(0, 2, 1), 0);
        due.is("6 down", x.set(0, 2, 1), 1);
        due.is("6 down", x.set(0, 2, 0), 1);
        int[][] wrongSets = {{-1, 1, 1}, {1, 1, 1}, {0, 0, 1}, {0, 3, 1}, {0, -1, 1}, {0, 1, -1}, {0, 1, 100}, {0, 2, -1}, {0, 2, 2}, {MIN, 1, 1}, {MAX, 2, 1}, {0, 1, MIN}, {0, 2, MAX}};
        for (int[] w : wrongSets) {
            due.is("6 set", x.set(w[0], w[1], w[2]), BAD);
        }
        due.is("6 height", x.told(0, 1), 0);
        due.is("6 down", x.told(0, 2), 0);
    }

    private static void deal() {
        RidgeClaps x = new RidgeClaps();
        x.seed(77);
        due.is("7 deal(0)", x.deal(0), BAD);
        due.is("7 deal(25)", x.deal(25), BAD);
        due.is("7 deal(-1)", x.deal(-1), BAD);
        due.is("7 deal(MIN)", x.deal(MIN), BAD);
        due.is("7 deal(MAX)", x.deal(MAX), BAD);
        due.is("7 no draws", x.count(10), 77);
        due.is("7 deal(20)", x.deal(20), 20);
        due.is("7 deal(24)", x.deal(24), 4);
        int[] z = {77};
        for (int i = 0; i < 24; i++) {
            due.is("7 kind", x.told(i, 0), draw(z) % 5);
            due.is("7 height", x.told(i, 1), draw(z) % 100);
            due.is("7 down", x.told(i, 2), draw(z) % 4 == 0 ? 1 : 0);
        }
        due.is("7 deal without room", x.deal(1), 0);
        due.is("7 72 draws", x.count(10), z[0]);
    }

    private static int draw(int[] z) {
        z[0] = z[0] * 1103515245 + 12345;
        return z[0] >>> 8;
    }

    private static void seed() {
        RidgeClaps x = new RidgeClaps();
        due.is("8 seed", x.seed(MIN), 1);
        due.is("8 seed", x.seed(MAX), MIN);
        due.is("8 seed", x.seed(0), MAX);
        due.is("8 z", x.count(10), 0);
    }

    private static void storm() {
        RidgeClaps x = new RidgeClaps();
        due.is("9 far", x.storm(0, 99), 60);
        due.is("9 far", x.storm(0, 0), 99);
        due.is("9 pace", x.storm(1, 9), 2);
        due.is("9 pace", x.storm(1, -9), 9);
        int[][] wrong = {{0, -1}, {0, 100}, {1, 10}, {1, -10}, {2, 0}, {-1, 0}, {0, MIN}, {0, MAX}, {1, MIN}, {1, MAX}, {MIN, 0}, {MAX, 0}};
        for (int[] w : wrong) {
            due.is("9 storm", x.storm(w[0], w[1]), BAD);
        }
        due.is("9 far", x.count(3), 0);
        due.is("9 pace", x.count(4), -9);
    }

    private static void sky() {
        RidgeClaps x = new RidgeClaps();
        due.is("10 far now", x.sky(0, 0), 60);
        due.is("10 far", x.sky(29, 0), 2);
        due.is("10 far held", x.sky(31, 0), 0);
        due.is("10 far held", x.sky(60, 0), 0);
        x.storm(0, 33);
        due.is("10 odds", x.sky(0, 1), 1);
        due.is("10 odds", x.sky(1, 1), 7);
        x.storm(0, 34);
        due.is("10 odds 0 at least", x.sky(0, 1), 0);
        x.storm(1, -9);
        due.is("10 far held", x.sky(60, 0), 99);
        due.is("10 far", x.sky(7, 0), 97);
        due.is("10 odds 0 at least", x.sky(7, 1), 0);
        Due.text(x, "odds d*10+m");
        due.is("10 odds held", x.sky(7, 1), 100);
        Due.text(x, "odds 0-m");
        due.is("10 odds held", x.sky(7, 1), 0);
        Due.text(x, "odds d-m");
        due.is("10 odds by text", x.sky(7, 1), 90);
        int[][] wrong = {{-1, 0}, {61, 0}, {0, -1}, {0, 2}, {MIN, 0}, {MAX, 1}, {0, MIN}, {0, MAX}};
        for (int[] w : wrong) {
            due.is("10 sky", x.sky(w[0], w[1]), BAD);
        }
    }

    private static void danger() {
        RidgeClaps x = new RidgeClaps();
        x.place(3, 99);
        x.place(0, 50);
        x.storm(0, 20);
        x.storm(1, 1);
        due.is("11 danger", x.danger(0, 0), 38 * 40);
        due.is("11 danger", x.danger(1, 5), 5 * 55);
        due.is("11 danger", x.danger(0, 60), 3800);
        Due.text(x, "risk 99");
        due.is("11 danger may be above 10000", x.danger(0, 60), 21800);
        int[][] wrong = {{-1, 0}, {2, 0}, {0, -1}, {0, 61}, {MIN, 0}, {MAX, 0}, {0, MIN}, {0, MAX}};
        for (int[] w : wrong) {
            due.is("11 danger", x.danger(w[0], w[1]), BAD);
        }
    }
}
