/** The boundary cases of promises 12 to 18: the party, and what is best for it. */
public final class EdgesPartyTest {
    private static final int BAD = RidgeClaps.BAD, NO = RidgeClaps.NO, FULL = RidgeClaps.FULL, NONE = RidgeClaps.NONE;
    private static final int MIN = States.MIN, MAX = States.MAX;
    private static final int[] NO_PLACE_OF_SEVEN = {-1, 7, 23, 24, MIN, MAX, NONE};
    private static final int[] NO_MINUTES = {0, -1, 61, MIN, MAX, NONE};
    private static final int[] NO_WHAT = {-1, 2, MIN, MAX, NONE};
    private static final Edges edges = new Edges("EdgesPartyTest");

    public static void main(String[] args) {
        come();
        step();
        stepRefused();
        runMany();
        runBest();
        runLast();
        tree();
        rule();
        hide();
        safest();
        edges.end(12, 18);
    }

    private static void come() {
        edges.of(12, "THE PARTY comes to a PLACE (NONE: nowhere): where it was (NONE).");
        RidgeClaps x = States.flat(new int[24]);
        edges.is("from nowhere to the first", x.come(0), NONE);
        edges.is("it is at the first", x.count(1), 0);
        edges.is("from the first to the last", x.come(23), 0);
        edges.is("it is at the last", x.count(1), 23);
        edges.is("to where it is", x.come(23), 23);
        edges.is("from the last to nowhere", x.come(NONE), 23);
        edges.is("it is nowhere", x.count(1), NONE);
        edges.is("from nowhere to nowhere", x.come(NONE), NONE);
        edges.is("no minute has gone", x.count(2), 0);
        edges.is("nothing was drawn", x.count(10), 1);
        edges.is("nowhere without places", new RidgeClaps().come(NONE), NONE);
        edges.of(12, "BAD.");
        for (int place : new int[] {-1, 7, 23, 24, MIN, MAX, BAD, NO, NONE - 1, NONE + 1}) {
            edges.refused("place " + place, States.RICH, r -> r.come(place), BAD);
        }
        edges.refused("place 24 of 24", States.CROWDED, r -> r.come(24), BAD);
        edges.refused("no places", States.NEW, r -> r.come(0), BAD);
    }

    private static void step() {
        edges.of(13, "A MINUTE with a STEP: DANGER that was met in it.");
        RidgeClaps x = States.flat(10, 20, 30);
        x.come(2);
        edges.is("the danger where it was, not where it comes to", x.step(1), 300);
        edges.is("on from the last", x.come(2) == 1 ? x.step(0) : -1, 300);
        edges.is("it is nowhere", x.count(1), NONE);
        edges.is("stay nowhere", x.step(2), 0);
        edges.is("back from the first", x.come(0) == NONE ? x.step(1) : -1, 100);
        edges.is("it is nowhere, too", x.count(1), NONE);
        edges.is("four minutes have gone", x.count(2), 4);
        edges.is("no danger", dangerlessStep(), 0);
        RidgeClaps one = States.flat(10);
        one.set(0, 2, 1);
        one.come(0);
        edges.is("off a place with down", one.step(3), 100);
        edges.is("off: nowhere", one.count(1), NONE);
        edges.is("stay without places", new RidgeClaps().step(2), 0);
    }

    private static int dangerlessStep() {
        RidgeClaps x = States.flat(9);
        x.come(0);
        return x.step(2);
    }

    private static void stepRefused() {
        edges.of(13, "BAD: no such STEP;");
        for (int step : new int[] {-1, 4, MIN, MAX, NONE}) {
            edges.refused("step " + step, States.RICH, x -> x.step(step), BAD);
            edges.refused("step " + step + ", ahead of no way nowhere", States.NOWHERE, x -> x.step(step), BAD);
            edges.refused("step " + step + ", ahead of full", States.LATE, x -> x.step(step), BAD);
        }
        edges.of(13, "NO: there is no such way (OFF without DOWN; nowhere all but STAY);");
        edges.refused("off without down", States.RICH, x -> x.step(3), NO);
        for (int step : new int[] {0, 1, 3}) {
            edges.refused("nowhere, step " + step, States.NOWHERE, x -> x.step(step), NO);
            edges.refused("without places, step " + step, States.NEW, x -> x.step(step), NO);
        }
        edges.refused("off without down, ahead of full", EdgesPartyTest::lateWithoutDown, x -> x.step(3), NO);
        for (int step : new int[] {0, 1, 3}) {
            edges.refused("nowhere, ahead of full, step " + step, EdgesPartyTest::lateNowhere, x -> x.step(step), NO);
        }
        RidgeClaps gone = States.flat(10, 20);
        gone.set(1, 2, 1);
        gone.come(0);
        edges.is("down at another place is no way", gone.step(3), NO);
        gone.set(0, 2, 1);
        gone.set(0, 2, 0);
        edges.is("down that is no more is no way", gone.step(3), NO);
        edges.of(13, "FULL: THE MINUTE is 9999.");
        for (int step = 0; step <= 3; step++) {
            int each = step;
            edges.refused("step " + step, States.LATE, x -> x.step(each), FULL);
        }
        edges.refused("stay nowhere", EdgesPartyTest::lateNowhere, x -> x.step(2), FULL);
        RidgeClaps last = States.flat(10);
        States.runTo(last, 9998);
        last.come(0);
        edges.is("the minute 9998 has a step", last.step(2), 100);
        edges.is("it is 9999 then", last.count(2), 9999);
        edges.is("it has none", last.step(2), FULL);
    }

    private static RidgeClaps lateWithoutDown() {
        RidgeClaps x = States.late();
        x.come(2);
        return x;
    }

    private static RidgeClaps lateNowhere() {
        RidgeClaps x = States.late();
        x.come(NONE);
        return x;
    }

    private static void runMany() {
        edges.of(14, "n (1 .. 60) MINUTES,");
        RidgeClaps x = States.flat(0, 0, 0);
        x.come(1);
        edges.is("n 1", x.run(1), 1);
        edges.is("n 1: one minute", x.count(2), 1);
        edges.is("n 60", x.run(60), 60);
        edges.is("n 60: sixty more", x.count(2), 61);
        edges.of(14, "BAD.");
        for (int n : NO_MINUTES) {
            edges.refused("n " + n, States.RICH, r -> r.run(n), BAD);
            edges.refused("n " + n + " in the last minute", States.LATE, r -> r.run(n), BAD);
        }
    }

    private static void runBest() {
        edges.of(14, "each with the BEST STEP of TREE of 20 minutes (STAY nowhere),");
        // To stay 20 minutes at RISK 2 is 40. To leave by an end of RISK 38 is 40, too: of several the least STEP, ON.
        // With 19 minutes staying would be better, with 21 minutes leaving by an end of RISK 39 would be.
        edges.is("not 19 minutes", placeBehindOneMinute(38), 2);
        edges.is("not 21 minutes", placeBehindOneMinute(39), 1);
        RidgeClaps x = States.risks(99, 2, 9);
        x.come(1);
        x.run(2);
        edges.is("each minute has a step", x.count(1), NONE);
        edges.is("each minute is met", x.count(5), 200 + 900);
        edges.is("each minute is drawn", x.count(10), drawn(drawn(1)));
        x.run(3);
        edges.is("nowhere it stays", x.count(1), NONE);
        edges.is("nowhere nothing is met", x.count(5), 1100);
        edges.is("nowhere nothing is drawn", x.count(10), drawn(drawn(1)));
        edges.is("nowhere minutes go, too", x.count(2), 5);
        RidgeClaps half = States.risks(99, 2, 9);
        half.come(1);
        edges.is("nowhere halfway, all minutes go", half.run(10), 10);
        edges.is("nowhere halfway, all are counted", half.count(2), 10);
        RidgeClaps none = new RidgeClaps();
        edges.is("without places", none.run(60), 60);
        edges.is("without places the storm goes on", none.count(3), 0);
        RidgeClaps down = States.flat(50, 50, 50);
        down.set(1, 2, 1);
        down.come(1);
        down.run(1);
        edges.is("off, where that is best", down.count(1), NONE);
    }

    private static int drawn(int z) {
        return z * 1103515245 + 12345;
    }

    private static int placeBehindOneMinute(int end) {
        RidgeClaps x = States.risks(end, 2, end);
        x.come(1);
        x.run(1);
        return x.count(1);
    }

    private static void runLast() {
        edges.of(14, "not beyond THE MINUTE 9999: how many there were.");
        RidgeClaps x = States.flat(50);
        States.runTo(x, 9939);
        x.keep();
        edges.is("60 minutes just go", x.run(60), 60);
        edges.is("they go to 9999", x.count(2), 9999);
        edges.is("none is left", x.run(1), 0);
        edges.is("none of 60 is left", x.run(60), 0);
        edges.is("it is 9999 still", x.count(2), 9999);
        x.back();
        x.run(1);
        edges.is("59 of 60 go", x.run(60), 59);
        RidgeClaps one = States.flat(50);
        States.runTo(one, 9998);
        one.come(0);
        edges.is("one of 60 goes", one.run(60), 1);
        edges.is("one is met", one.count(5), 500);
        edges.same("none left: nothing changes", () -> {
            RidgeClaps late = States.late();
            late.run(60);
            return late;
        }, States.LATE);
    }

    private static void tree() {
        edges.of(15, "TREE of m (1 .. 60) minutes from a PLACE: what 0 the DANGER, 1 the BEST STEP.");
        RidgeClaps x = States.flat(90, 90, 10, 90, 90);
        edges.is("m 1", x.tree(2, 1, 0), 100);
        edges.is("m 1, any step: the least", x.tree(2, 1, 1), 0);
        edges.is("m 2", x.tree(2, 2, 0), 200);
        edges.is("m 2, stay", x.tree(2, 2, 1), 2);
        edges.is("m 60, by the end", x.tree(2, 60, 0), 100 + 900 + 900);
        edges.is("m 60, on", x.tree(2, 60, 1), 0);
        RidgeClaps hollow = States.flat(90, 90, 0, 90, 90);
        edges.is("m 60, stay", hollow.tree(2, 60, 0), 0);
        edges.is("m 60, by staying", hollow.tree(2, 60, 1), 2);
        // Sixty minutes at RISK 1 are 60, to leave is 1 and 59: of several the least STEP; with RISK 60 to stay is best.
        edges.is("m 60 are not 59", States.risks(59, 1, 59).tree(1, 60, 1), 0);
        edges.is("m 60 are not 61", States.risks(60, 1, 60).tree(1, 60, 1), 2);
        edges.is("the first place", x.tree(0, 60, 0), 900);
        edges.is("the last place", x.tree(4, 60, 0), 900);
        RidgeClaps all = States.flat(new int[24]);
        all.set(23, 1, 99);
        edges.is("place 23 of 24", all.tree(23, 60, 0), 900);
        edges.is("the only place", States.flat(50).tree(0, 60, 0), 500);
        edges.same("nothing changes", () -> {
            RidgeClaps r = States.rich();
            r.tree(0, 60, 0);
            r.tree(6, 60, 1);
            return r;
        }, States.RICH);
        edges.of(15, "BAD.");
        for (int place : NO_PLACE_OF_SEVEN) {
            edges.refused("place " + place, States.RICH, r -> r.tree(place, 1, 0), BAD);
        }
        for (int m : NO_MINUTES) {
            edges.refused("m " + m, States.RICH, r -> r.tree(0, m, 0), BAD);
        }
        for (int what : NO_WHAT) {
            edges.refused("what " + what, States.RICH, r -> r.tree(0, 1, what), BAD);
        }
        edges.refused("no places", States.NEW, r -> r.tree(0, 1, 0), BAD);
        edges.refused("place 24 of 24", States.CROWDED, r -> r.tree(24, 1, 0), BAD);
    }

    private static void rule() {
        edges.of(16, "BY RULE of m (1 .. 60) minutes from a PLACE: what 0 the DANGER, 1 the PRICE.");
        RidgeClaps x = States.flat(30, 20, 90, 10);
        edges.is("m 1", x.rule(2, 1, 0), 900);
        edges.is("m 1, no price", x.rule(2, 1, 1), 0);
        edges.is("m 2", x.rule(2, 2, 0), 1100);
        edges.is("m 2, a price", x.rule(2, 2, 1), 1100 - 1000);
        edges.is("m 60, till nowhere", x.rule(2, 60, 0), 1400);
        edges.is("m 60, the price", x.rule(2, 60, 1), 1400 - 1000);
        RidgeClaps long60 = States.risks(1, 1);
        Due.text(long60, "turn n=1");
        edges.is("m 60, never nowhere", long60.rule(0, 60, 0), 6000);
        edges.is("m 59, never nowhere", long60.rule(0, 59, 0), 5900);
        edges.is("m 60, the price of going to and fro", long60.rule(0, 60, 1), 5900);
        edges.is("the last place", x.rule(3, 60, 0), 100 + 900 + 200 + 300);
        edges.is("the first place", x.rule(0, 60, 0), 300);
        edges.same("nothing changes", () -> {
            RidgeClaps r = States.rich();
            r.rule(0, 60, 0);
            r.rule(6, 60, 1);
            return r;
        }, States.RICH);
        edges.of(16, "BAD.");
        for (int place : NO_PLACE_OF_SEVEN) {
            edges.refused("place " + place, States.RICH, r -> r.rule(place, 1, 0), BAD);
        }
        for (int m : NO_MINUTES) {
            edges.refused("m " + m, States.RICH, r -> r.rule(0, m, 0), BAD);
        }
        for (int what : NO_WHAT) {
            edges.refused("what " + what, States.RICH, r -> r.rule(0, 1, what), BAD);
        }
        edges.refused("no places", States.NEW, r -> r.rule(0, 1, 0), BAD);
    }

    private static void hide() {
        edges.of(17, "HIDE within m (0 .. 60) minutes from a PLACE.");
        RidgeClaps x = States.flat(50, 40, 30, 20, 10);
        edges.is("m 0: where it is", x.hide(0, 0), 0);
        edges.is("m 0: where it is, the last", x.hide(4, 0), 4);
        edges.is("m 1", x.hide(0, 1), 1);
        edges.is("m 3: not the one 4 apart", x.hide(0, 3), 3);
        edges.is("m 4: the one 4 apart", x.hide(0, 4), 4);
        edges.is("m 5: there are no more", x.hide(0, 5), 4);
        edges.is("m 60", x.hide(0, 60), 4);
        RidgeClaps back = States.flat(10, 20, 30, 40, 50);
        edges.is("back, m 3: not the one 4 apart", back.hide(4, 3), 1);
        edges.is("back, m 4: the one 4 apart", back.hide(4, 4), 0);
        edges.is("back, m 60", back.hide(4, 60), 0);
        RidgeClaps all = States.flat(new int[24]);
        for (int i = 0; i < 23; i++) {
            all.set(i, 1, 99);
        }
        edges.is("23 apart of 24, m 22", all.hide(0, 22), 0);
        edges.is("23 apart of 24, m 23", all.hide(0, 23), 23);
        edges.is("the only place", States.flat(50).hide(0, 60), 0);
        edges.of(17, "BAD.");
        for (int place : NO_PLACE_OF_SEVEN) {
            edges.refused("place " + place, States.RICH, r -> r.hide(place, 1), BAD);
        }
        for (int m : new int[] {-1, 61, MIN, MAX, NONE}) {
            edges.refused("m " + m, States.RICH, r -> r.hide(0, m), BAD);
        }
        edges.refused("no places", States.NEW, r -> r.hide(0, 0), BAD);
    }

    private static void safest() {
        edges.of(18, "The PLACE from which TREE of m (1 .. 60) minutes is least (of several the least).");
        RidgeClaps x = States.flat(20, 90, 10, 90, 30);
        edges.is("m 1", x.safest(1), 2);
        edges.is("m 2: two have the same", x.safest(2), 0);
        edges.is("m 60", x.safest(60), 0);
        // TREE from the middle is m at most, from the ends 59 or 60 and nothing more.
        edges.is("m 60 are not 59", States.risks(99, 99, 1, 99, 59).safest(60), 4);
        edges.is("m 60: of two the least", States.risks(99, 99, 1, 99, 60).safest(60), 2);
        edges.is("all the same", States.flat(50, 50, 50).safest(1), 0);
        edges.is("the last of 24", lastIsSafest().safest(1), 23);
        edges.is("the only place", States.flat(50).safest(60), 0);
        edges.of(18, "BAD;");
        for (int m : NO_MINUTES) {
            edges.refused("m " + m, States.RICH, r -> r.safest(m), BAD);
            edges.refused("m " + m + ", ahead of none", States.NEW, r -> r.safest(m), BAD);
        }
        edges.of(18, "NONE: there are none.");
        edges.refused("m 1", States.NEW, r -> r.safest(1), NONE);
        edges.refused("m 60", States.NEW, r -> r.safest(60), NONE);
    }

    private static RidgeClaps lastIsSafest() {
        RidgeClaps x = States.flat(new int[24]);
        for (int i = 0; i < 23; i++) {
            x.set(i, 1, 10);
        }
        return x;
    }
}
