/** The boundary cases of the terms: what holds for all calls, part 1 (places and the storm), part 2 (the minute, what is best). */
public final class EdgesRidgeTermsTest {
    private static final int BAD = RidgeClaps.BAD, NO = RidgeClaps.NO, FULL = RidgeClaps.FULL, NONE = RidgeClaps.NONE;
    private static final int NOTHING = RidgeClaps.NOTHING, KIND = RidgeClaps.KIND, INDEX = RidgeClaps.INDEX, SIZE = RidgeClaps.SIZE;
    private static final String[] KINDS = {"PLACE", "CREST", "HOLLOW", "SPIRE", "LIPPED", "IRONED"};
    private static final Edges edges = new Edges("EdgesRidgeTermsTest");

    public static void main(String[] args) {
        cut();
        firstOfSeveral();
        none();
        places();
        kinds();
        riskHeld();
        riskOfKinds();
        worths();
        far();
        odds();
        danger();
        minute();
        steps();
        met();
        struck();
        stepAndStorm();
        tree();
        bestStep();
        byRule();
        hide();
        draws();
        edges.end();
    }

    // ---- ahead of the parts

    private static int riskBy(String e) {
        RidgeClaps x = States.flat(50);
        Due.text(x, "risk " + e);
        return x.told(0, 3);
    }

    private static void cut() {
        edges.ofTerms(0, "All numbers are whole; / cuts towards 0.");
        edges.is("7 / 2", riskBy("7/2"), 3);
        edges.is("-7 / 2", riskBy("10+(0-7)/2"), 7);
        edges.is("7 / -2", riskBy("10+7/(0-2)"), 7);
        edges.is("-7 / -2", riskBy("(0-7)/(0-2)"), 3);
        edges.is("-1 / 2", riskBy("10+(0-1)/2"), 10);
        edges.is("a clap of -2", States.fill(new RidgeClaps(), 0, 0, -2).claps(0, 0), 0);
        edges.is("a clap of -4", States.fill(new RidgeClaps(), 0, 0, -4).claps(0, 0), -1);
        edges.is("a clap of 5", States.fill(new RidgeClaps(), 0, 0, 5).claps(0, 0), 1);
    }

    private static void firstOfSeveral() {
        edges.ofTerms(0, "A call that is refused answers one of BAD, NO, FULL, or a FINDING, of several the one that stands first with it, "
            + "and changes nothing (but the tape and the numbers that wait, where told).");
        edges.refused("place: BAD, FULL", States.CROWDED, x -> x.place(9, 9), BAD);
        edges.refused("as: BAD, KIND", States.RICH, x -> x.as(9, 5), BAD);
        edges.refused("step: BAD, NO, FULL", EdgesRidgeTermsTest::lateNowhere, x -> x.step(4), BAD);
        edges.refused("step: NO, FULL", EdgesRidgeTermsTest::lateNowhere, x -> x.step(0), NO);
        edges.refused("safest: BAD, NONE", States.NEW, x -> x.safest(0), BAD);
        edges.refused("claps: BAD, NOTHING", States.RICH, x -> x.claps(3, 4), BAD);
        edges.refused("claps: BAD, NONE", States.RICH, x -> x.claps(2, 4), BAD);
        edges.refused("sheet: BAD, SIZE", States.RICH, x -> x.sheet(0, 2, -1), BAD);
        edges.refused("mark: BAD, NOTHING", States.NEW, x -> x.mark(4, 99, 100000), BAD);
        edges.refused("mark: NOTHING, INDEX, KIND", States.RICH, x -> x.mark(3, 99, NONE), NOTHING);
        edges.refused("mark: INDEX, KIND", States.RICH, x -> x.mark(0, 99, NONE), INDEX);
        edges.refused("mark: INDEX, BAD", States.RICH, x -> x.mark(1, 99, 100000), INDEX);
        edges.refused("copy: BAD, NOTHING, INDEX", States.RICH, x -> x.copy(3, -1, 4, -1, -1), BAD);
        edges.refused("copy: NOTHING, INDEX", States.RICH, x -> x.copy(3, -1, 0, -1, -1), NOTHING);
        edges.refused("copy: KIND, INDEX", States.RICH, x -> x.copy(1, -1, 0, -1, -1), KIND);
        edges.refused("lay: BAD, NOTHING", States.RICH, x -> x.lay(5, 2, 3), BAD);
        edges.refused("ask: BAD, NOTHING", States.RICH, x -> x.ask(0, 6), BAD);
        edges.refused("ask: BAD, KIND", States.RICH, x -> x.ask(3, 6), BAD);
        edges.refused("item: NOTHING, INDEX", States.RICH, x -> x.item(0, -1), NOTHING);
        edges.refused("item: KIND, INDEX", States.RICH, x -> x.item(3, -1), KIND);
        edges.refused("rest: NOTHING, NO", States.RICH, x -> x.rest(0, 0), NOTHING);
        edges.refused("rest: KIND, NO", States.RICH, x -> x.rest(1, 0), KIND);
        edges.refused("check: BAD, NO", States.NEW, x -> x.check(0), BAD);
        edges.refused("sheet: SIZE alone", States.RICH, x -> x.sheet(0, 1, -1), SIZE);
        edges.refused("tell: FULL alone", States.CROWDED, x -> x.tell(1), FULL);
    }

    private static RidgeClaps lateNowhere() {
        RidgeClaps x = States.late();
        x.come(NONE);
        return x;
    }

    private static void none() {
        edges.ofTerms(0, "NONE: there is none.");
        edges.is("no party", new RidgeClaps().count(1), NONE);
        edges.is("no text", new RidgeClaps().why(0), NONE);
        edges.is("no safest place", new RidgeClaps().safest(1), NONE);
        edges.is("no place that reads otherwise", States.fill(new RidgeClaps(), 0, 0).reads(0), NONE);
        edges.is("no claps", States.fill(new RidgeClaps(), 0, 0).claps(0, 0), NONE);
    }

    // ---- part 1

    private static void places() {
        edges.ofTerms(1, "1 PLACES, 24 at most, numbered from 0, one behind the other:");
        RidgeClaps x = new RidgeClaps();
        for (int i = 0; i < 24; i++) {
            edges.is("number " + i, x.place(i % 6, i), i);
        }
        edges.is("no 25th by place", x.place(0, 0), FULL);
        edges.is("no 25th by deal", x.deal(1), 0);
        for (int i = 0; i < 24; i++) {
            edges.is("number " + i + " is where it was put", x.told(i, 1), i);
        }
        edges.is("12 and 12", dealt(12, 12), 24);
        edges.is("12 and 13", dealt(12, 13), 24);
        edges.ofTerms(1, "HEIGHT 0 .. 99,");
        for (int height : new int[] {0, 99}) {
            edges.is(height + " by place", States.flat(height).told(0, 1), height);
            RidgeClaps y = States.flat(50);
            y.set(0, 1, height);
            edges.is(height + " by set", y.told(0, 1), height);
        }
        edges.refused("-1 by place", States.RICH, r -> r.place(0, -1), BAD);
        edges.refused("100 by place", States.RICH, r -> r.place(0, 100), BAD);
        edges.refused("-1 by set", States.RICH, r -> r.set(0, 1, -1), BAD);
        edges.refused("100 by set", States.RICH, r -> r.set(0, 1, 100), BAD);
        edges.ofTerms(1, "DOWN or not (a way off; not at first),");
        edges.is("not at first", States.flat(5).told(0, 2), 0);
        RidgeClaps down = States.flat(5, 5);
        down.set(0, 2, 1);
        down.come(0);
        edges.is("a way off", down.step(3), 0);
        edges.is("it is off", down.count(1), NONE);
    }

    private static int dealt(int first, int second) {
        RidgeClaps x = new RidgeClaps();
        return x.deal(first) + x.deal(second);
    }

    private static void kinds() {
        edges.ofTerms(1, "and of KINDS: 0 PLACE; 1 CREST, 2 HOLLOW, 5 IRONED, under PLACE; 3 SPIRE, under CREST; 4 LIPPED, under HOLLOW (all are PLACES).");
        String[] above = {"P", "CP", "HP", "SCP", "LHP", "IP"};
        String letters = "PCHSLI";
        for (int own = 0; own < 6; own++) {
            for (int kind = 0; kind < 6; kind++) {
                RidgeClaps x = new RidgeClaps();
                x.place(own, 33);
                boolean isOne = above[own].indexOf(letters.charAt(kind)) >= 0;
                edges.is(KINDS[own] + (isOne ? " is a " : " is no ") + KINDS[kind], x.as(0, kind), isOne ? 33 : KIND);
            }
        }
    }

    private static int risk(int kind, int height, String law) {
        RidgeClaps x = new RidgeClaps();
        x.place(kind, height);
        if (law != null) {
            Due.text(x, law);
        }
        return x.told(0, 3);
    }

    private static void riskHeld() {
        edges.ofTerms(1, "RISK: PLACE: what risk gives, held within 0 .. 99 (that alone is held; without a TEXT: HEIGHT / 10).");
        int[][] gives = {{0, 0}, {1, 1}, {98, 98}, {99, 99}, {100, 99}, {101, 99}, {9999, 99}};
        for (int[] g : gives) {
            edges.is("it gives " + g[0], risk(0, 50, "risk " + g[0]), g[1]);
        }
        edges.is("it gives -1", risk(0, 50, "risk 0-1"), 0);
        edges.is("it gives -9999", risk(0, 50, "risk 0-9999"), 0);
        edges.is("it gives the highest int", risk(0, 50, "risk 8192*8192*32-1"), 99);
        edges.is("it gives the lowest int", risk(0, 50, "risk 8192*8192*32"), 0);
        int[] high = {99, 109, 49, 218, 54, 119};
        int[] low = {0, 10, 0, 20, 5, 20};
        for (int kind = 0; kind < 6; kind++) {
            edges.is("100 as PLACE alone is held, " + KINDS[kind], risk(kind, 50, "risk 100"), high[kind]);
            edges.is("-100 as PLACE alone is held, " + KINDS[kind], risk(kind, 50, "risk 0-100"), low[kind]);
        }
        int[][] without = {{0, 0}, {9, 0}, {10, 1}, {19, 1}, {20, 2}, {89, 8}, {90, 9}, {99, 9}};
        for (int[] w : without) {
            edges.is("without a text, height " + w[0], risk(0, w[0], null), w[1]);
        }
        edges.is("h 0", risk(0, 0, "risk h"), 0);
        edges.is("h 99", risk(0, 99, "risk h"), 99);
        RidgeClaps all = States.risks(new int[24]);
        Due.text(all, "risk n");
        edges.is("n 0", all.told(0, 3), 0);
        edges.is("n 23", all.told(23, 3), 23);
    }

    private static void riskOfKinds() {
        String[] sentences = {null, "CREST: as PLACE, and 10.", "HOLLOW: half (cut) of as PLACE.", "SPIRE: twice as CREST.", "LIPPED: as HOLLOW, and 5.", "IRONED: as PLACE, and 20."};
        int[] plain = {0, 1, 2, 3, 98, 99};
        int[][] due = {{}, {10, 11, 12, 13, 108, 109}, {0, 0, 1, 1, 49, 49}, {20, 22, 24, 26, 216, 218}, {5, 5, 6, 6, 54, 54}, {20, 21, 22, 23, 118, 119}};
        for (int kind = 1; kind < 6; kind++) {
            edges.ofTerms(1, sentences[kind]);
            for (int i = 0; i < plain.length; i++) {
                edges.is(KINDS[kind] + ", as PLACE " + plain[i], risk(kind, plain[i], "risk h"), due[kind][i]);
            }
            edges.is(KINDS[kind] + ", height 99 without a text", risk(kind, 99, null), new int[] {0, 19, 4, 38, 9, 29}[kind]);
            edges.is(KINDS[kind] + ", height 0 without a text", risk(kind, 0, null), due[kind][0]);
        }
    }

    private static int worth(int kind, int height) {
        RidgeClaps x = new RidgeClaps();
        x.place(kind, height);
        return x.told(0, 4);
    }

    private static void worths() {
        String[] sentences = {"WORTH: PLACE: HEIGHT.", "CREST: as PLACE, and 7.", "HOLLOW: 100 less HEIGHT.", "SPIRE: twice as CREST.", "LIPPED: as HOLLOW, less 20.",
            "IRONED: half (cut) of as PLACE. (A KIND that is not named does as the one above it.)"};
        int[] heights = {0, 1, 80, 81, 98, 99};
        int[][] due = {heights, {7, 8, 87, 88, 105, 106}, {100, 99, 20, 19, 2, 1}, {14, 16, 174, 176, 210, 212}, {80, 79, 0, -1, -18, -19}, {0, 0, 40, 40, 49, 49}};
        for (int kind = 0; kind < 6; kind++) {
            edges.ofTerms(1, sentences[kind]);
            for (int i = 0; i < heights.length; i++) {
                edges.is("WORTH of " + KINDS[kind] + ", height " + heights[i], worth(kind, heights[i]), due[kind][i]);
            }
        }
    }

    private static RidgeClaps storm(int far, int pace) {
        RidgeClaps x = new RidgeClaps();
        x.storm(0, far);
        x.storm(1, pace);
        return x;
    }

    private static void far() {
        edges.ofTerms(1, "THE STORM: FAR 0 .. 99 (60 at first), PACE -9 .. 9 (2 at first).");
        edges.is("FAR at first", new RidgeClaps().count(3), 60);
        edges.is("PACE at first", new RidgeClaps().count(4), 2);
        edges.is("FAR 0", storm(0, 0).count(3), 0);
        edges.is("FAR 99", storm(99, 0).count(3), 99);
        edges.is("PACE -9", storm(0, -9).count(4), -9);
        edges.is("PACE 9", storm(0, 9).count(4), 9);
        edges.refused("FAR -1", States.RICH, x -> x.storm(0, -1), BAD);
        edges.refused("FAR 100", States.RICH, x -> x.storm(0, 100), BAD);
        edges.refused("PACE -10", States.RICH, x -> x.storm(1, -10), BAD);
        edges.refused("PACE 10", States.RICH, x -> x.storm(1, 10), BAD);
        edges.ofTerms(1, "FAR t minutes on: FAR less PACE times t, held within 0 .. 99.");
        int[][] due = {{60, 2, 0, 60}, {60, 2, 29, 2}, {60, 2, 30, 0}, {60, 2, 31, 0}, {60, 2, 60, 0}, {60, 0, 60, 60}, {0, 0, 60, 0}, {99, 0, 60, 99},
            {99, 9, 10, 9}, {99, 9, 11, 0}, {99, 9, 12, 0}, {99, 9, 60, 0}, {0, -9, 10, 90}, {0, -9, 11, 99}, {0, -9, 12, 99}, {0, -9, 60, 99}, {98, -1, 1, 99}, {98, -1, 2, 99}, {99, -9, 0, 99}, {0, 9, 0, 0}};
        for (int[] d : due) {
            edges.is("FAR " + d[0] + ", PACE " + d[1] + ", t " + d[2], storm(d[0], d[1]).sky(d[2], 0), d[3]);
        }
    }

    private static int oddsBy(String law, int far) {
        RidgeClaps x = storm(far, 0);
        Due.text(x, law);
        return x.sky(0, 1);
    }

    private static void odds() {
        edges.ofTerms(1, "ODDS t minutes on, d being FAR then: what odds gives, held within 0 .. 100 (without a TEXT: 100 less 3 times d, 0 at least).");
        int[][] without = {{0, 100}, {1, 97}, {32, 4}, {33, 1}, {34, 0}, {35, 0}, {99, 0}};
        for (int[] w : without) {
            edges.is("without a text, FAR " + w[0], storm(w[0], 0).sky(0, 1), w[1]);
        }
        int[][] gives = {{0, 0}, {1, 1}, {99, 99}, {100, 100}, {101, 100}, {9999, 100}};
        for (int[] g : gives) {
            edges.is("it gives " + g[0], oddsBy("odds " + g[0], 50), g[1]);
        }
        edges.is("it gives -1", oddsBy("odds 0-1", 50), 0);
        edges.is("it gives the highest int", oddsBy("odds 8192*8192*32-1", 50), 100);
        edges.is("it gives the lowest int", oddsBy("odds 8192*8192*32", 50), 0);
        edges.is("d 0", oddsBy("odds d", 0), 0);
        edges.is("d 99", oddsBy("odds d", 99), 99);
        RidgeClaps then = storm(50, 1);
        Due.text(then, "odds d");
        edges.is("d is FAR then", then.sky(20, 1), 30);
        edges.is("d is held", then.sky(60, 1), 0);
        Due.text(then, "odds m");
        edges.is("m 0", then.sky(0, 1), 0);
        edges.is("m 60", then.sky(60, 1), 60);
    }

    private static void danger() {
        edges.ofTerms(1, "DANGER of a PLACE t minutes on: RISK times ODDS.");
        edges.is("RISK 0", States.flat(9).danger(0, 0), 0);
        RidgeClaps none = States.flat(99);
        none.storm(0, 34);
        edges.is("ODDS 0", none.danger(0, 0), 0);
        RidgeClaps least = States.flat(10);
        least.storm(0, 33);
        edges.is("RISK 1, ODDS 1", least.danger(0, 0), 1);
        RidgeClaps most = States.risks(99);
        most.turns(0, 3);
        edges.is("RISK 218, ODDS 100", most.danger(0, 60), 21800);
    }

    // ---- part 2

    private static void minute() {
        edges.ofTerms(2, "2 THE MINUTE is 0 at first, 9999 at most.");
        edges.is("at first", new RidgeClaps().count(2), 0);
        edges.is("at most", States.late().count(2), 9999);
        RidgeClaps late = States.late();
        edges.is("no more by step", late.step(2), FULL);
        edges.is("no more by run", late.run(1), 0);
        edges.is("it stays", late.count(2), 9999);
        edges.ofTerms(2, "THE PARTY is at a PLACE, or nowhere (at first).");
        edges.is("nowhere at first", new RidgeClaps().count(1), NONE);
        edges.is("nowhere still, when places come", States.flat(5, 6).count(1), NONE);
    }

    private static int behind(int from, int step, int down) {
        RidgeClaps x = States.flat(10, 20, 30);
        x.set(from, 2, down);
        x.come(from);
        return x.step(step) < 0 ? x.step(step) : x.count(1);
    }

    private static void steps() {
        edges.ofTerms(2, "STEPS: 0 ON (to the next PLACE; from the last one nowhere), 1 BACK (to the one ahead; from PLACE 0 nowhere), 2 STAY, 3 OFF (nowhere; from a PLACE with DOWN alone).");
        edges.is("ON from the first", behind(0, 0, 0), 1);
        edges.is("ON from the middle", behind(1, 0, 0), 2);
        edges.is("ON from the last", behind(2, 0, 0), NONE);
        edges.is("BACK from the last", behind(2, 1, 0), 1);
        edges.is("BACK from the middle", behind(1, 1, 0), 0);
        edges.is("BACK from the first", behind(0, 1, 0), NONE);
        for (int from = 0; from < 3; from++) {
            edges.is("STAY at " + from, behind(from, 2, 0), from);
            edges.is("OFF from " + from + " with DOWN", behind(from, 3, 1), NONE);
            edges.is("OFF from " + from + " without", behind(from, 3, 0), NO);
        }
        RidgeClaps all = States.flat(new int[24]);
        all.come(22);
        all.step(0);
        edges.is("ON to place 23", all.count(1), 23);
        all.step(0);
        edges.is("ON from place 23", all.count(1), NONE);
        RidgeClaps one = States.flat(5);
        one.come(0);
        one.step(0);
        edges.is("ON from the only one", one.count(1), NONE);
    }

    private static void met() {
        edges.ofTerms(2, "A MINUTE: MET (0 at first) is more by DANGER of the PLACE at which THE PARTY is (0 nowhere);");
        RidgeClaps x = States.flat(10, 20);
        edges.is("0 at first", x.count(5), 0);
        x.step(2);
        edges.is("0 nowhere", x.count(5), 0);
        x.come(1);
        x.step(1);
        edges.is("where it was, not where it comes to", x.count(5), 200);
        x.step(1);
        edges.is("together", x.count(5), 300);
        x.step(2);
        edges.is("nowhere no more", x.count(5), 300);
        RidgeClaps most = States.risks(99);
        most.turns(0, 3);
        most.come(0);
        most.step(2);
        edges.is("the most in a minute", most.count(5), 21800);
    }

    /** The first seed from which the next draw has this rest by 10000. */
    private static int seedFor(int rest) {
        int seed = 0;
        while ((seed * 1103515245 + 12345 >>> 8) % 10000 != rest) {
            seed++;
        }
        return seed;
    }

    /** How often it is struck in a minute with a DANGER, when the draw has this rest. */
    private static int struckBy(int risk, int rest) {
        RidgeClaps x = States.risks(risk > 99 ? 99 : risk);
        if (risk > 99) {
            x.turns(0, 3);
        }
        x.come(0);
        x.seed(seedFor(rest));
        x.step(2);
        return x.count(6);
    }

    private static void struck() {
        edges.ofTerms(2, "a draw (not nowhere): it is STRUCK (0 at first) once more, if its rest by 10000 is below that DANGER;");
        edges.is("0 at first", new RidgeClaps().count(6), 0);
        edges.is("below by one", struckBy(9, 899), 1);
        edges.is("the same", struckBy(9, 900), 0);
        edges.is("above by one", struckBy(9, 901), 0);
        edges.is("rest 0, DANGER 100", struckBy(1, 0), 1);
        edges.is("rest 0, DANGER 0", struckBy(0, 0), 0);
        edges.is("rest 9999, DANGER 9900", struckBy(99, 9999), 0);
        edges.is("rest 9899, DANGER 9900", struckBy(99, 9899), 1);
        edges.is("rest 9999, DANGER 21800", struckBy(218, 9999), 1);
        RidgeClaps x = States.flat(50);
        x.come(0);
        x.seed(7);
        x.step(0);
        edges.is("one draw", x.count(10), 7 * 1103515245 + 12345);
        x.step(2);
        edges.is("none nowhere", x.count(10), 7 * 1103515245 + 12345);
        RidgeClaps twice = States.risks(99);
        twice.turns(0, 3);
        twice.come(0);
        twice.step(2);
        twice.step(2);
        edges.is("once more each time", twice.count(6), 2);
        RidgeClaps low = States.flat(9);
        low.come(0);
        low.step(2);
        edges.is("a draw without danger, too", low.count(10), 1103515245 + 12345);
    }

    private static void stepAndStorm() {
        edges.ofTerms(2, "then its STEP; FAR becomes FAR 1 minute on; THE MINUTE is 1 more.");
        RidgeClaps x = States.flat(10, 90);
        x.storm(0, 20);
        x.storm(1, 5);
        x.come(0);
        edges.is("DANGER ahead of the STEP and of the storm's way", x.step(0), 40);
        edges.is("its STEP", x.count(1), 1);
        edges.is("FAR", x.count(3), 15);
        edges.is("THE MINUTE", x.count(2), 1);
        int[][] due = {{1, 2, 0}, {2, 2, 0}, {0, 9, 0}, {0, 0, 0}, {98, -1, 99}, {99, -1, 99}, {91, -9, 99}, {90, -9, 99}, {89, -9, 98}};
        for (int[] d : due) {
            RidgeClaps nowhere = storm(d[0], d[1]);
            nowhere.step(2);
            edges.is("FAR " + d[0] + ", PACE " + d[1] + ", nowhere", nowhere.count(3), d[2]);
        }
        RidgeClaps text = States.flat(10);
        Due.text(text, "odds 5+m");
        text.come(0);
        text.step(2);
        edges.is("m is 0 each minute", text.step(2), 5);
    }

    private static void tree() {
        edges.ofTerms(2, "TREE of m minutes from a PLACE: the least DANGER, together, of m minutes with any STEPS that may be (nowhere there is none more).");
        RidgeClaps x = States.flat(90, 80, 10, 70, 60);
        edges.is("one minute is where it is", x.tree(0, 1, 0), 900);
        edges.is("two minutes, nowhere", x.tree(0, 2, 0), 900);
        edges.is("two minutes, stay", x.tree(2, 2, 0), 200);
        edges.is("fourteen minutes, stay", x.tree(2, 14, 0), 1400);
        edges.is("fifteen minutes, by the end or not", x.tree(2, 15, 0), 1400);
        edges.is("by ON alone", States.risks(9, 9, 9, 1, 9, 9).tree(2, 3, 0), 900 + 2 * 100);
        edges.is("by BACK alone", States.risks(9, 9, 1, 9, 9, 9).tree(3, 3, 0), 900 + 2 * 100);
        edges.is("by BACK twice", States.risks(9, 9, 0, 8, 9, 9, 9).tree(4, 4, 0), 900 + 800);
        edges.is("by ON twice", States.risks(9, 9, 9, 8, 0, 9, 9).tree(2, 4, 0), 900 + 800);
        edges.is("a step that may not be", States.flat(90, 50, 90).tree(1, 9, 0), 1400);
        RidgeClaps down = States.flat(90, 50, 90);
        down.set(1, 2, 1);
        edges.is("a step that may be", down.tree(1, 9, 0), 500);
        // The storm comes: ODDS 40, 43, 46; it goes: 40, 37, 34.
        RidgeClaps comes = States.flat(0, 10, 0, 10, 0);
        comes.turns(2, 1);
        comes.storm(0, 20);
        comes.storm(1, 1);
        edges.is("ODDS by the minute, coming", comes.tree(2, 2, 0), 10 * 40 + 1 * 43);
        comes.storm(1, -1);
        edges.is("ODDS by the minute, going", comes.tree(2, 2, 0), 10 * 40 + 1 * 37);
        RidgeClaps all = States.risks(new int[24]);
        for (int i = 0; i < 24; i++) {
            all.set(i, 1, 99);
            all.turns(i, 3);
        }
        edges.is("the most there is", all.tree(12, 60, 0), 21800 * 12);
    }

    /** RISKS of three, four PLACES and m minutes: the BEST STEP from PLACE at. */
    private static int step(int at, int down, int... risks) {
        RidgeClaps x = States.risks(risks);
        x.set(at, 2, down);
        return x.tree(at, 3, 1);
    }

    private static void bestStep() {
        edges.ofTerms(2, "BEST STEP: the first of a row with this least one; of several the least.");
        edges.is("ON alone", step(1, 0, 9, 9, 1), 0);
        edges.is("BACK alone", step(1, 0, 1, 9, 9), 1);
        edges.is("STAY alone", step(1, 0, 9, 1, 9), 2);
        edges.is("OFF alone", step(1, 1, 9, 1, 9), 3);
        edges.is("ON and BACK", step(1, 0, 2, 9, 2), 0);
        edges.is("ON and STAY", step(1, 0, 9, 1, 1, 9), 0);
        edges.is("ON and OFF", step(2, 1, 9, 9, 1), 0);
        edges.is("BACK and STAY", step(2, 0, 9, 1, 1, 9), 1);
        edges.is("BACK and OFF", step(0, 1, 1, 9, 9), 1);
        edges.is("STAY and OFF", step(1, 1, 9, 0, 9), 2);
        edges.is("ON to nowhere and STAY without danger", step(2, 0, 9, 9, 0), 0);
        edges.is("BACK to nowhere and STAY without danger", step(0, 0, 0, 9, 9), 1);
        edges.is("BACK without danger and OFF", step(2, 1, 9, 0, 9, 9), 1);
        edges.is("ON without danger and OFF", step(1, 1, 9, 9, 0, 9), 0);
        edges.is("all four", step(1, 1, 0, 0, 0), 0);
        edges.is("the only place, ON and BACK", step(0, 0, 9), 0);
        edges.is("by 1", step(1, 0, 3, 9, 2), 0);
        edges.is("by 1, the other way", step(1, 0, 2, 9, 3), 1);
        RidgeClaps one = States.risks(9, 1, 9);
        edges.is("of one minute all STEPS", one.tree(1, 1, 1), 0);
    }

    private static int ruled(int far, String law) {
        RidgeClaps x = States.flat(30, 20, 90, 10);
        x.storm(0, far);
        Due.text(x, "odds 1");
        if (law != null) {
            Due.text(x, law);
        }
        return x.rule(1, 60, 0);
    }

    private static void byRule() {
        edges.ofTerms(2, "BY RULE, m minutes from a PLACE: each minute, if turn gives what is not 0 (without a TEXT: if FAR then is below 20), BACK, else ON, till nowhere: DANGER together.");
        int back = 2 + 3;
        int on = 2 + 9 + 1;
        int[][] fars = {{0, back}, {19, back}, {20, on}, {21, on}, {99, on}};
        for (int[] f : fars) {
            edges.is("without a text, FAR " + f[0], ruled(f[0], null), f[1]);
        }
        edges.is("it gives 1", ruled(50, "turn 1"), back);
        edges.is("it gives 2", ruled(50, "turn 2"), back);
        edges.is("it gives -1", ruled(50, "turn 0-1"), back);
        edges.is("it gives the lowest int", ruled(50, "turn 8192*8192*32"), back);
        edges.is("it gives 0", ruled(5, "turn 0"), on);
        edges.is("f", ruled(50, "turn f=50"), back);
        edges.is("n, the place at which it is then", ruled(50, "turn n=1"), 30 * (2 + 3));
        edges.is("n, not where it began", ruled(50, "turn n=2"), 30 * (2 + 9));
        edges.is("m 0", ruled(50, "turn m=0"), 2 + 3 + 2 + 9 + 1);
        edges.is("m 1", ruled(50, "turn m=1"), 2 + 9 + 2 + 9 + 1);
        RidgeClaps then = States.flat(30, 20, 90, 10);
        Due.text(then, "odds 1");
        then.storm(0, 21);
        then.storm(1, 1);
        edges.is("FAR then, not now: on, on, back, back, back, back", then.rule(1, 60, 0), 2 + 9 + 1 + 9 + 2 + 3);
        edges.is("till nowhere, not further", then.rule(3, 1, 0), 1);
        edges.is("on from the last is nowhere", then.rule(3, 60, 0), 1);
        edges.ofTerms(2, "PRICE: that, less TREE.");
        RidgeClaps x = States.flat(30, 20, 90, 10);
        edges.is("none", x.rule(0, 60, 1), 0);
        edges.is("some", x.rule(3, 60, 1), 100 + 900 + 200 + 300 - 100);
        edges.is("of one minute none", x.rule(2, 1, 1), 0);
    }

    private static void hide() {
        edges.ofTerms(2, "HIDE within m minutes from a PLACE: of all PLACES that are m or less apart (by numbers) that with the least RISK; of several the least.");
        RidgeClaps x = States.flat(0, 50, 50, 50, 50, 50, 0);
        edges.is("2 apart are not 3", x.hide(3, 2), 1);
        edges.is("3 apart: of two the least", x.hide(3, 3), 0);
        edges.is("3 apart, one side alone", x.hide(4, 3), 6);
        edges.is("of all the same the least, not the nearest", x.hide(3, 1), 2);
        edges.is("where it is, if that is less", States.flat(50, 40, 50).hide(1, 1), 1);
        edges.is("where it is and one behind it", States.flat(50, 40, 40).hide(1, 1), 1);
        edges.is("where it is and one ahead of it", States.flat(40, 40, 50).hide(1, 1), 0);
        RidgeClaps kinds = States.flat(50, 59, 50);
        kinds.turns(1, 2);
        edges.is("by RISK, not by HEIGHT", kinds.hide(0, 2), 1);
    }

    private static void draws() {
        edges.ofTerms(2, "z is told (1 at first).");
        edges.is("1 at first", new RidgeClaps().count(10), 1);
        edges.ofTerms(2, "A draw: z becomes z * 1103515245 + 12345 (an int); it gives z >>> 8.");
        for (int seed : new int[] {0, 1, -1, States.MIN, States.MAX, 2}) {
            RidgeClaps x = new RidgeClaps();
            x.seed(seed);
            x.deal(1);
            int[] z = {seed};
            edges.is("KIND from z " + seed, x.told(0, 0), drawn(z) % 5);
            edges.is("HEIGHT from z " + seed, x.told(0, 1), drawn(z) % 100);
            edges.is("DOWN from z " + seed, x.told(0, 2), drawn(z) % 4 == 0 ? 1 : 0);
            edges.is("z behind it from " + seed, x.count(10), z[0]);
        }
        edges.ofTerms(2, "A PLACE that is drawn: KIND the rest of a draw by 5, HEIGHT that of one more by 100; DOWN, if that of one more by 4 is 0.");
        boolean[][] seen = {new boolean[6], new boolean[100], new boolean[4]};
        for (int seed = 0; seed < 600; seed++) {
            RidgeClaps x = new RidgeClaps();
            x.seed(seed * 7919);
            x.deal(1);
            int[] z = {seed * 7919};
            int[] want = {drawn(z) % 5, drawn(z) % 100, drawn(z) % 4};
            for (int what = 0; what < 3; what++) {
                if (!seen[what][want[what]]) {
                    seen[what][want[what]] = true;
                    edges.is("the rest " + want[what] + " of draw " + what, x.told(0, what), what < 2 ? want[what] : want[what] == 0 ? 1 : 0);
                }
            }
        }
        edges.is("never IRONED", seen[0][5] ? 1 : 0, 0);
        edges.is("KIND 0 and 4 were drawn", seen[0][0] && seen[0][4] ? 1 : 0, 1);
        edges.is("HEIGHT 0 and 99 were drawn", seen[1][0] && seen[1][99] ? 1 : 0, 1);
        edges.is("all rests by 4 were drawn", seen[2][0] && seen[2][1] && seen[2][2] && seen[2][3] ? 1 : 0, 1);
    }

    private static int drawn(int[] z) {
        z[0] = z[0] * 1103515245 + 12345;
        return z[0] >>> 8;
    }
}
