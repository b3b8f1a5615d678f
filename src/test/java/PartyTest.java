/** Promises 12 to 18: the party, and what is best for it. */
public final class PartyTest {
    private static final int BAD = RidgeClaps.BAD, NO = RidgeClaps.NO, FULL = RidgeClaps.FULL, NONE = RidgeClaps.NONE;
    private static final int MIN = Integer.MIN_VALUE, MAX = Integer.MAX_VALUE;
    private static final Due due = new Due("PartyTest");

    public static void main(String[] args) {
        come();
        stepWays();
        stepMinute();
        stepStruck();
        lastMinute();
        run();
        runLooksTwentyAhead();
        treeSmall();
        treeOfMany();
        treeRefused();
        ruleOf();
        hide();
        safest();
        due.end();
    }

    private static RidgeClaps flat(int... heights) {
        RidgeClaps x = new RidgeClaps();
        for (int h : heights) {
            x.place(0, h);
        }
        x.storm(0, 0);
        x.storm(1, 0);
        return x;
    }

    private static void come() {
        RidgeClaps x = flat(10, 20);
        due.is("12 come", x.come(1), NONE);
        due.is("12 come", x.come(0), 1);
        due.is("12 come nowhere", x.come(NONE), 0);
        due.is("12 come nowhere", x.come(NONE), NONE);
        x.come(1);
        for (int wrong : new int[] {-1, 2, 24, MIN, MAX, NO}) {
            due.is("12 come", x.come(wrong), BAD);
        }
        due.is("12 stays", x.count(1), 1);
    }

    private static void stepWays() {
        RidgeClaps x = flat(10, 20, 30);
        int[][] steps = {{0, 0, 1}, {0, 1, NONE}, {0, 2, 0}, {1, 0, 2}, {1, 1, 0}, {1, 2, 1}, {2, 0, NONE}, {2, 1, 1}, {2, 2, 2}};
        for (int[] s : steps) {
            x.come(s[0]);
            due.is("13 step", x.step(s[1]), 100 * (s[0] + 1));
            due.is("13 from " + s[0] + " by " + s[1], x.count(1), s[2]);
        }
        x.come(1);
        due.is("13 no way down", x.step(3), NO);
        due.is("13 no such step", x.step(4), BAD);
        due.is("13 no such step", x.step(-1), BAD);
        due.is("13 no such step", x.step(MIN), BAD);
        due.is("13 no such step", x.step(MAX), BAD);
        due.is("13 stays", x.count(1), 1);
        x.set(1, 2, 1);
        due.is("13 a way down", x.step(3), 200);
        due.is("13 nowhere", x.count(1), NONE);
        for (int step : new int[] {0, 1, 3}) {
            due.is("13 nowhere", x.step(step), NO);
        }
        due.is("13 nowhere, no such step", x.step(4), BAD);
        due.is("13 nowhere, stay", x.step(2), 0);
    }

    private static void stepMinute() {
        RidgeClaps x = flat(10, 20, 30);
        x.storm(0, 10);
        x.storm(1, 7);
        x.seed(5);
        x.come(2);
        due.is("13 danger ahead of the step", x.step(1), 3 * 70);
        due.is("13 met", x.count(5), 210);
        due.is("13 minute", x.count(2), 1);
        due.is("13 far", x.count(3), 3);
        due.is("13 one draw", x.count(10), 5 * 1103515245 + 12345);
        due.is("13 danger", x.step(1), 2 * 91);
        due.is("13 met together", x.count(5), 392);
        due.is("13 far held", x.count(3), 0);
        x.come(NONE);
        x.seed(5);
        x.storm(1, -9);
        due.is("13 nowhere", x.step(2), 0);
        due.is("13 nowhere no draw", x.count(10), 5);
        due.is("13 nowhere far", x.count(3), 9);
        due.is("13 nowhere minute", x.count(2), 3);
        due.is("13 nowhere met", x.count(5), 392);
        x.come(0);
        x.step(3);
        due.is("13 refused: no draw", x.count(10), 5);
        due.is("13 refused: no minute", x.count(2), 3);
    }

    private static void stepStruck() {
        int[] seeds = {1, 2, 3, 9, 77, -5, 123456, MIN, MAX};
        for (int seed : seeds) {
            RidgeClaps x = flat(99);
            x.turns(0, 3);
            x.come(0);
            x.seed(seed);
            int struck = 0;
            int z = seed;
            for (int i = 0; i < 40; i++) {
                z = z * 1103515245 + 12345;
                struck += (z >>> 8) % 10000 < 3800 ? 1 : 0;
                x.step(2);
                due.is("13 struck", x.count(6), struck);
            }
            Due.text(x, "risk 99");
            x.step(2);
            due.is("13 always struck above 10000", x.count(6), struck + 1);
            Due.text(x, "odds 0");
            x.step(2);
            due.is("13 never struck by 0", x.count(6), struck + 1);
        }
        // The draw's rest must be below the DANGER, not the same.
        for (int seed = 0; seed < 200000; seed++) {
            int rest = (seed * 1103515245 + 12345 >>> 8) % 10000;
            if (rest == 900 || rest == 899) {
                RidgeClaps x = flat(99);
                x.come(0);
                x.seed(seed);
                x.step(2);
                due.is("13 rest " + rest + " of 900", x.count(6), rest == 899 ? 1 : 0);
            }
        }
    }

    private static void lastMinute() {
        RidgeClaps x = flat(10);
        x.set(0, 2, 1);
        for (int i = 0; i < 166; i++) {
            due.is("14 run", x.run(60), 60);
        }
        due.is("14 minute", x.count(2), 9960);
        x.keep();
        due.is("14 run to the last minute", x.run(60), 39);
        due.is("14 minute", x.count(2), 9999);
        due.is("14 no more", x.run(1), 0);
        due.is("13 full", x.step(2), FULL);
        due.is("13 no way ahead of full", x.step(0), NO);
        due.is("13 bad ahead of full", x.step(4), BAD);
        x.come(0);
        due.is("13 full", x.step(3), FULL);
        due.is("13 full", x.step(0), FULL);
        due.is("14 no more", x.run(60), 0);
        due.is("13 z stays", x.count(10), 1);
        x.come(NONE);
        x.keep();
        due.is("36 no minutes left", x.check(5), 0);
        x.tell(0);
        due.is("36 one too many", x.check(5), 1);
        x.back();
        due.is("38 minute", x.count(2), 9999);
    }

    private static void run() {
        RidgeClaps x = flat(90, 50, 10, 50, 90);
        for (int i = 0; i < 5; i++) {
            x.turns(i, i == 2 ? 2 : 1);
        }
        x.come(1);
        x.storm(0, 30);
        due.is("14 run(0)", x.run(0), BAD);
        due.is("14 run(61)", x.run(61), BAD);
        due.is("14 run(MIN)", x.run(MIN), BAD);
        due.is("14 run(MAX)", x.run(MAX), BAD);
        due.is("14 no minute", x.count(2), 0);
        // The hollow in the middle has RISK 0: on to it, then stay (of several the least STEP).
        due.is("14 first step", x.tree(1, 20, 1), 0);
        due.is("14 run", x.run(1), 1);
        due.is("14 met", x.count(5), 15 * 10);
        due.is("14 at", x.count(1), 2);
        due.is("14 run", x.run(60), 60);
        due.is("14 met no more", x.count(5), 150);
        due.is("14 hidden", x.count(1), 2);
        due.is("14 nowhere", x.come(NONE), 2);
        due.is("14 run nowhere", x.run(7), 7);
        due.is("14 minute", x.count(2), 68);
        // A far way out pays within 20 minutes, though not within 3: run looks 20 minutes ahead.
        RidgeClaps y = flat(99, 90, 30, 55);
        y.turns(1, 1);
        y.turns(3, 3);
        y.storm(0, 0);
        due.is("15 short", y.tree(2, 3, 1), 2);
        due.is("15 long", y.tree(2, 20, 1), 1);
        y.storm(0, 5);
        due.is("14 run", stepsAndRunAgree(y) ? 1 : 0, 1);
    }

    /** To stay 20 minutes at RISK 2 is 40; to leave by an end of RISK 39 is 41, by one of 37 it is 39. */
    private static void runLooksTwentyAhead() {
        for (int end : new int[] {39, 37}) {
            RidgeClaps x = flat(end, 2, end);
            Due.text(x, "risk h");
            x.come(1);
            x.run(1);
            due.is("14 behind a minute with " + end, x.count(1), end == 39 ? 1 : 2);
        }
    }

    /** run must go as TREE of 20 minutes tells minute by minute. */
    private static boolean stepsAndRunAgree(RidgeClaps y) {
        y.come(2);
        y.keep();
        int[] row = new int[24];
        for (int i = 0; i < 6; i++) {
            int at = y.count(1);
            y.step(at == NONE ? 2 : y.tree(at, 20, 1));
            for (int what = 1; what < 5; what++) {
                row[4 * i + what - 1] = y.count(what == 4 ? 5 : what);
            }
        }
        y.back();
        boolean same = true;
        for (int i = 0; i < 6; i++) {
            y.run(1);
            for (int what = 1; what < 5; what++) {
                same &= row[4 * i + what - 1] == y.count(what == 4 ? 5 : what);
            }
        }
        return same;
    }

    private static void treeSmall() {
        RidgeClaps x = flat(30, 20, 90, 10, 90, 20);
        // ODDS are 100 all the time, RISKS 3 2 9 1 9 2.
        due.is("15 one minute", x.tree(3, 1, 0), 100);
        due.is("15 one minute, any step: the least", x.tree(3, 1, 1), 0);
        due.is("15 stay", x.tree(3, 9, 0), 900);
        due.is("15 stay", x.tree(3, 9, 1), 2);
        due.is("15 leave by the end", x.tree(3, 60, 0), 100 + 900 + 200);
        due.is("15 of two ways the least step", x.tree(3, 60, 1), 0);
        due.is("15 from the first place off the ridge", x.tree(0, 60, 0), 300);
        due.is("15 back from the first place", x.tree(0, 60, 1), 1);
        due.is("15 from the last place off the ridge", x.tree(5, 60, 0), 200);
        due.is("15 on from the last place", x.tree(5, 60, 1), 0);
        x.set(3, 2, 1);
        due.is("15 off", x.tree(3, 60, 0), 100);
        due.is("15 off", x.tree(3, 60, 1), 3);
        due.is("15 to the way down", x.tree(2, 60, 0), 900 + 100);
        due.is("15 of two ways the least step", x.tree(2, 60, 1), 0);
        x.set(5, 2, 1);
        due.is("15 on ahead of off", x.tree(5, 2, 1), 0);
        x.set(0, 2, 1);
        due.is("15 back ahead of off", x.tree(0, 2, 1), 1);
        RidgeClaps only = flat(10);
        due.is("15 one place", only.tree(0, 60, 0), 100);
        due.is("15 one place", only.tree(0, 60, 1), 0);
        RidgeClaps zero = flat(9, 9, 9);
        due.is("15 no danger", zero.tree(1, 60, 0), 0);
        due.is("15 no danger: the least step", zero.tree(1, 60, 1), 0);
        due.is("15 no danger: the least step", zero.tree(2, 60, 1), 0);
        // Going later costs less: the storm goes.
        RidgeClaps goes = flat(50, 90, 0, 90, 50);
        goes.storm(1, -9);
        due.is("15 waits", goes.tree(2, 10, 0), 0);
        due.is("15 by minutes", goes.tree(1, 2, 0), 9 * 100);
        due.is("15 minutes tell", goes.tree(0, 1, 0), 500);
    }

    private static void treeOfMany() {
        RidgeClaps x = new RidgeClaps();
        for (int i = 0; i < 24; i++) {
            x.place(0, i == 12 ? 20 : 99);
        }
        x.storm(0, 0);
        x.storm(1, 0);
        due.is("15 from the last of 24", x.tree(23, 60, 0), 900);
        due.is("15 from the one ahead of it", x.tree(22, 60, 0), 1800);
        due.is("15 stays in the middle", x.tree(12, 45, 0), 200 * 45);
        due.is("15 stays in the middle", x.tree(12, 45, 1), 2);
        due.is("15 on to the middle", x.tree(11, 45, 0), 900 + 200 * 44);
        due.is("15 on to the middle", x.tree(11, 45, 1), 0);
        due.is("15 back to the middle", x.tree(13, 45, 1), 1);
        due.is("18 of 24", x.safest(60), 0);
        due.is("18 of 24", x.safest(4), 12);
        due.is("16 to the last of 24", x.rule(12, 60, 0), 200 + 12 * 900);
        x.storm(0, 20);
        due.is("16 to the last of 24", x.rule(12, 60, 0), 40 * (2 + 11 * 9));
        due.is("17 of 24", x.hide(23, 10), 13);
        due.is("17 of 24", x.hide(23, 11), 12);
    }

    private static void treeRefused() {
        RidgeClaps x = flat(10, 20);
        int[][] wrong = {{-1, 1, 0}, {2, 1, 0}, {0, 0, 0}, {0, 61, 0}, {0, 1, -1}, {0, 1, 2}, {MIN, 1, 0}, {MAX, 1, 0}, {0, MIN, 0}, {0, MAX, 0}, {0, 1, MIN}, {0, 1, MAX}, {NONE, 1, 0}};
        for (int[] w : wrong) {
            due.is("15 tree", x.tree(w[0], w[1], w[2]), BAD);
            due.is("16 rule", x.rule(w[0], w[1], w[2]), BAD);
        }
    }

    private static void ruleOf() {
        RidgeClaps x = flat(30, 20, 90, 10);
        due.is("16 near: back", x.rule(2, 60, 0), 900 + 200 + 300);
        due.is("16 price", x.rule(2, 60, 1), 1400 - 1000);
        due.is("16 one minute", x.rule(2, 1, 0), 900);
        due.is("16 one minute", x.rule(2, 1, 1), 0);
        x.storm(0, 20);
        due.is("16 not below 20: on", x.rule(2, 60, 0), 40 * (9 + 1));
        x.storm(0, 19);
        due.is("16 below 20: back", x.rule(2, 60, 0), 43 * (9 + 2 + 3));
        x.storm(0, 20);
        x.storm(1, 1);
        due.is("16 FAR then", x.rule(2, 60, 0), 9 * 40 + 1 * 43 + 9 * 46 + 2 * 49 + 3 * 52);
        x.storm(1, 0);
        Due.text(x, "turn m=1");
        due.is("16 by m", x.rule(1, 3, 0), 40 * (2 + 9 + 2));
        Due.text(x, "turn n>1");
        due.is("16 by n", x.rule(1, 5, 0), 40 * (2 + 9 + 2 + 9 + 2));
        due.is("16 price by n", x.rule(1, 5, 1), 40 * (24 - 5));
        Due.text(x, "turn f-19");
        due.is("16 what is not 0 is back", x.rule(1, 60, 0), 40 * (2 + 3));
        Due.text(x, "turn f<20");
        due.is("16 by f", x.rule(1, 60, 0), 40 * (2 + 9 + 1));
        Due.text(x, "turn 0");
        due.is("16 never back", x.rule(0, 60, 0), 40 * (3 + 2 + 9 + 1));
        Due.text(x, "turn 10-f*1");
        due.is("16 below 0 is back, too", x.rule(1, 60, 0), 40 * (2 + 3));
    }

    private static void hide() {
        RidgeClaps x = flat(50, 40, 30, 20, 30, 10, 20);
        int[][] hides = {{0, 0, 0}, {0, 1, 1}, {0, 2, 2}, {0, 3, 3}, {0, 4, 3}, {0, 5, 5}, {0, 60, 5}, {6, 0, 6}, {6, 1, 5}, {3, 1, 3}, {3, 2, 5}, {4, 0, 4}};
        for (int[] h : hides) {
            due.is("17 hide(" + h[0] + ", " + h[1] + ")", x.hide(h[0], h[1]), h[2]);
        }
        x.set(6, 1, 0);
        due.is("17 the last place", x.hide(2, 60), 6);
        x.set(6, 1, 20);
        x.turns(5, 1);
        due.is("17 of several the least", x.hide(4, 60), 3);
        due.is("17 of several the least", x.hide(5, 2), 3);
        Due.text(x, "risk 9-n");
        due.is("17 by the text", x.hide(2, 2), 4);
        int[][] wrong = {{-1, 0}, {7, 0}, {0, -1}, {0, 61}, {MIN, 0}, {MAX, 0}, {0, MIN}, {0, MAX}};
        for (int[] w : wrong) {
            due.is("17 hide", x.hide(w[0], w[1]), BAD);
        }
    }

    private static void safest() {
        RidgeClaps none = new RidgeClaps();
        due.is("18 none", none.safest(1), NONE);
        due.is("18 bad ahead of none", none.safest(0), BAD);
        due.is("18 bad ahead of none", none.safest(61), BAD);
        RidgeClaps x = flat(40, 90, 10, 90, 30);
        due.is("18 one minute", x.safest(1), 2);
        due.is("18 two minutes", x.safest(2), 2);
        due.is("18 three minutes: of several the least", x.safest(3), 2);
        due.is("18 four minutes: off the end", x.safest(4), 4);
        x.set(2, 1, 50);
        due.is("18 one minute", x.safest(1), 4);
        x.set(4, 1, 40);
        due.is("18 of several the least", x.safest(60), 0);
        for (int wrong : new int[] {0, 61, -1, MIN, MAX}) {
            due.is("18 safest", x.safest(wrong), BAD);
        }
    }
}
