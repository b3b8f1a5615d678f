import java.util.function.Supplier;

/** The boundary cases of promises 35 to 39: rows that wait, images, counts. */
public final class EdgesImagesTest {
    private static final int BAD = RidgeClaps.BAD, NO = RidgeClaps.NO, FULL = RidgeClaps.FULL, NONE = RidgeClaps.NONE;
    private static final int MIN = States.MIN, MAX = States.MAX;
    private static final int[] NO_MINUTES = {0, -1, 31, 60, MIN, MAX, NONE};
    private static final Edges edges = new Edges("EdgesImagesTest");

    public static void main(String[] args) {
        tell();
        checkRight();
        checkFewer();
        checkNoneWait();
        checkElse();
        checkRefused();
        keep();
        keepTakesAll();
        back();
        count();
        edges.end(35, 39);
    }

    private static void tell() {
        edges.of(35, "One more number waits: how many.");
        RidgeClaps x = new RidgeClaps();
        for (int i = 1; i <= 60; i++) {
            edges.is("number " + i, x.tell(i % 2 == 0 ? MIN : MAX), i);
        }
        edges.is("they are counted", x.count(8), 60);
        for (int v : new int[] {0, -1, MIN, MAX, NONE, BAD, FULL}) {
            edges.is("any number, " + v, new RidgeClaps().tell(v), 1);
        }
        edges.of(35, "FULL: 60 wait.");
        edges.refused("a 61st", States.CROWDED, r -> r.tell(0), FULL);
        edges.is("a 61st told one by one", x.tell(0), FULL);
        edges.is("60 wait still", x.count(8), 60);
        x.check(1);
        edges.is("room again behind check", x.tell(0), 1);
    }

    /** A PLACE of RISK 11 between two of 218: THE PARTY stays there, DANGER 1100 each minute, struck now and then. */
    private static RidgeClaps struck() {
        RidgeClaps x = States.risks(99, 11, 99);
        x.turns(0, 3);
        x.turns(2, 3);
        x.come(1);
        x.keep();
        return x;
    }

    /** MET and STRUCK behind each of n MINUTES of struck. */
    private static int[] row(int n) {
        int[] row = new int[2 * n];
        int z = 1;
        int hit = 0;
        for (int i = 0; i < n; i++) {
            z = z * 1103515245 + 12345;
            hit += (z >>> 8) % 10000 < 1100 ? 1 : 0;
            row[2 * i] = 1100 * (i + 1);
            row[2 * i + 1] = hit;
        }
        return row;
    }

    private static RidgeClaps telling(int[] row, int many) {
        RidgeClaps x = struck();
        for (int i = 0; i < many; i++) {
            x.tell(row[i]);
        }
        return x;
    }

    private static void checkRight() {
        edges.of(36, "are THE MINUTES TOLD of n (1 .. 30;");
        for (int n : new int[] {1, 2, 3, 29, 30}) {
            edges.is("n " + n, telling(row(n), 2 * n).check(n), 0);
        }
        edges.is("it is struck now and then", row(30)[59] > 0 && row(30)[59] < 30 ? 1 : 0, 1);
        edges.of(36, "two by two: 0;");
        int[] swapped = row(1);
        int met = swapped[0];
        swapped[0] = swapped[1];
        swapped[1] = met;
        edges.is("STRUCK ahead of MET", telling(swapped, 2).check(1), 1);
        edges.is("MET alone", telling(row(1), 1).check(1), 2);
        edges.is("all METs ahead of all STRUCKs", metsFirst(), 2);
    }

    private static int metsFirst() {
        int[] row = row(2);
        return telling(new int[] {row[0], row[2], row[1], row[3]}, 4).check(2);
    }

    private static RidgeClaps keptAt(int minute) {
        RidgeClaps x = States.flat(50);
        States.runTo(x, minute);
        x.come(0);
        x.keep();
        x.come(NONE);
        return x;
    }

    /** Behind each minute from there MET is 500, STRUCK 0: it leaves at once. */
    private static int checkedAt(int minute, int told, int n) {
        RidgeClaps x = keptAt(minute);
        for (int i = 0; i < told; i++) {
            x.tell(i % 2 == 0 ? 500 : 0);
        }
        return x.check(n);
    }

    private static void checkFewer() {
        edges.of(36, "fewer, if THE MINUTE there would be above 9999),");
        edges.is("9997, two minutes of two", checkedAt(9997, 4, 2), 0);
        edges.is("9997, two minutes of 30", checkedAt(9997, 4, 30), 0);
        edges.is("9997, three of three are too many", checkedAt(9997, 6, 3), 5);
        edges.is("9998, one minute of one", checkedAt(9998, 2, 1), 0);
        edges.is("9998, one minute of 30", checkedAt(9998, 2, 30), 0);
        edges.is("9998, one is missing", checkedAt(9998, 1, 30), 2);
        edges.is("9998, one too many", checkedAt(9998, 3, 30), 3);
        edges.is("9999, none of one", checkedAt(9999, 0, 1), 0);
        edges.is("9999, none of 30", checkedAt(9999, 0, 30), 0);
        edges.is("9999, one too many", checkedAt(9999, 1, 1), 1);
        edges.is("9969, 30 minutes just go", checkedAt(9969, 60, 30), 0);
        edges.is("9970, 29 of 30 go", checkedAt(9970, 58, 30), 0);
        RidgeClaps now = keptAt(9990);
        States.runTo(now, 9999);
        for (int i = 0; i < 6; i++) {
            now.tell(i % 2 == 0 ? 500 : 0);
        }
        edges.is("the minute of the image counts, not as it is", now.check(3), 0);
    }

    private static void checkNoneWait() {
        edges.of(36, "The numbers that wait (none do then, whatever is answered)");
        RidgeClaps right = telling(row(2), 4);
        edges.is("right", right.check(2), 0);
        edges.is("right: none wait", right.count(8), 0);
        edges.is("right: they are gone", right.check(2), 1);
        RidgeClaps wrong = telling(row(2), 3);
        edges.is("wrong", wrong.check(2), 4);
        edges.is("wrong: none wait", wrong.count(8), 0);
        RidgeClaps bad = telling(row(2), 4);
        edges.is("bad", bad.check(31), BAD);
        edges.is("bad: none wait", bad.count(8), 0);
        edges.is("bad: they are gone", bad.check(2), 1);
        RidgeClaps no = new RidgeClaps();
        no.tell(0);
        no.tell(0);
        edges.is("no image", no.check(1), NO);
        edges.is("no image: none wait", no.count(8), 0);
        no.keep();
        edges.is("no image: they are gone", no.check(1), 1);
        RidgeClaps all = States.crowded();
        edges.is("60 of them are wrong from number 7 on", all.check(30), 7);
        edges.is("60 of them: none wait", all.count(8), 0);
        Supplier<RidgeClaps> checked = () -> {
            RidgeClaps x = States.rich();
            x.check(3);
            return x;
        };
        edges.same("right: nothing else changes", checked, States.UNTOLD);
        edges.same("wrong: nothing else changes", () -> {
            RidgeClaps x = States.rich();
            x.check(30);
            return x;
        }, States.UNTOLD);
    }

    private static void checkElse() {
        edges.of(36, "else 1 and how many stand right ahead of the first that is not (or is missing, or one too many).");
        int[] row = row(30);
        for (int wrong = 0; wrong < 60; wrong++) {
            int[] other = row.clone();
            other[wrong] ^= 1;
            edges.is("number " + wrong + " of 60 is not", telling(other, 60).check(30), 1 + wrong);
        }
        for (int told = 0; told < 60; told++) {
            edges.is("number " + told + " of 60 is missing", telling(row, told).check(30), 1 + told);
        }
        for (int n = 1; n < 30; n++) {
            edges.is("one too many for " + n, telling(row, 2 * n + 1).check(n), 1 + 2 * n);
        }
        edges.is("many too many", telling(row, 60).check(1), 3);
        int[] two = row.clone();
        two[3] ^= 1;
        two[7] ^= 1;
        edges.is("the first of two that are not", telling(two, 10).check(5), 4);
        edges.is("the first that is not, ahead of one too many", telling(two, 10).check(2), 4);
        edges.is("one too many, ahead of one that is not", telling(two, 10).check(1), 3);
        edges.is("none told", struck().check(1), 1);
    }

    private static void checkRefused() {
        edges.of(36, "BAD;");
        for (int n : NO_MINUTES) {
            edges.is("n " + n, States.rich().check(n), BAD);
            edges.is("n " + n + ", ahead of no image", new RidgeClaps().check(n), BAD);
            edges.same("n " + n + ": nothing changes but that none wait", () -> {
                RidgeClaps x = States.rich();
                x.check(n);
                return x;
            }, States.UNTOLD);
        }
        edges.of(36, "NO: there is no IMAGE.");
        edges.refused("n 1", States.NEW, x -> x.check(1), NO);
        edges.refused("n 30", States.NEW, x -> x.check(30), NO);
        edges.refused("with places", () -> States.flat(1, 2, 3), x -> x.check(1), NO);
    }

    private static void keep() {
        edges.of(37, "AN IMAGE is kept: how many PLACES.");
        edges.is("none", new RidgeClaps().keep(), 0);
        edges.is("one", States.flat(5).keep(), 1);
        edges.is("24", States.crowded().keep(), 24);
        RidgeClaps twice = States.flat(5);
        twice.keep();
        twice.place(0, 6);
        edges.is("again", twice.keep(), 2);
        twice.place(0, 7);
        edges.is("the last image is the one", twice.back(), 2);
        RidgeClaps x = States.rich();
        int[] before = {x.count(0), x.count(1), x.count(2), x.count(3), x.count(4), x.count(5), x.count(6), x.count(7), x.count(8), x.count(9), x.count(10)};
        x.keep();
        for (int what = 0; what <= 10; what++) {
            edges.is("count(" + what + ") stays", x.count(what), before[what]);
        }
        edges.same("kept and back: nothing has changed but the image", () -> {
            RidgeClaps y = States.rich();
            y.keep();
            y.back();
            return y;
        }, () -> {
            RidgeClaps y = States.rich();
            y.keep();
            return y;
        });
    }

    /** Each thing that an image keeps, changed behind it and back again. */
    private static void keepTakesAll() {
        edges.of(38, "All is as THE IMAGE: how many PLACES.");
        edges.is("7 places", States.rich().back(), 7);
        edges.is("none", emptied(), 0);
        Supplier<RidgeClaps> back = () -> {
            RidgeClaps x = States.rich();
            x.back();
            return x;
        };
        String[] names = {"place", "turns", "height", "down", "deal", "seed", "far", "pace", "come", "step", "run", "risk", "odds", "turn", "hear", "pour", "back"};
        for (int change = 0; change < names.length; change++) {
            int each = change;
            edges.same(names[change] + " behind the image", () -> {
                RidgeClaps x = States.rich();
                change(x, each);
                x.back();
                return x;
            }, each < 11 || each > 13 ? back : () -> {
                RidgeClaps x = back.get();
                x.trim(0);
                return x;
            });
        }
    }

    private static int emptied() {
        RidgeClaps x = new RidgeClaps();
        x.keep();
        x.deal(24);
        return x.back();
    }

    private static void change(RidgeClaps x, int which) {
        switch (which) {
            case 0: x.place(5, 99); break;
            case 1: x.turns(3, 5); break;
            case 2: x.set(3, 1, 77); break;
            case 3: x.set(3, 2, 1); break;
            case 4: x.deal(24); break;
            case 5: x.seed(8); break;
            case 6: x.storm(0, 8); break;
            case 7: x.storm(1, 8); break;
            case 8: x.come(NONE); break;
            case 9: x.step(2); break;
            case 10: x.run(60); break;
            case 11: x.trim(0); Due.text(x, "risk 8"); break;
            case 12: x.trim(0); Due.text(x, "odds 8"); break;
            case 13: x.trim(0); Due.text(x, "turn 8"); break;
            case 14: x.hear(0); break;
            case 15: x.pour(0); break;
            default: x.back(); x.run(9); x.back(); x.set(0, 1, 8); break;
        }
    }

    private static void back() {
        edges.of(38, "NO: there is none.");
        edges.refused("a new object", States.NEW, x -> x.back(), NO);
        edges.refused("places, no image", () -> States.flat(1, 2, 3), x -> x.back(), NO);
        RidgeClaps bad = States.flat(5);
        bad.check(1);
        edges.is("check keeps none", bad.back(), NO);
    }

    private static void count() {
        edges.of(39, "How many: 0 PLACES, 1 the PLACE of THE PARTY (NONE), 2 THE MINUTE, 3 FAR, 4 PACE, 5 MET, 6 STRUCK, 7 TEXTS, 8 numbers that wait, 9 bytes of THE TAPE, 10 z.");
        int[] first = {0, NONE, 0, 60, 2, 0, 0, 0, 0, 0, 1};
        int[] rich = {7, 3, 2, 37, -2, 150 + 42 * 25, 0, 4, 6, 24, 4711};
        for (int i = 0; i < 2; i++) {
            rich[10] = rich[10] * 1103515245 + 12345;
        }
        for (int what = 0; what <= 10; what++) {
            edges.is("at first, what " + what, new RidgeClaps().count(what), first[what]);
            edges.is("later, what " + what, States.rich().count(what), rich[what]);
        }
        edges.is("24 places", States.crowded().count(0), 24);
        edges.is("the party nowhere", States.nowhere().count(1), NONE);
        edges.is("the party at place 0", partyAtFirst(), 0);
        edges.is("the minute 9999", States.late().count(2), 9999);
        edges.is("14 texts", States.crowded().count(7), 14);
        edges.is("60 numbers that wait", States.crowded().count(8), 60);
        edges.is("96 bytes", States.crowded().count(9), 96);
        edges.of(39, "BAD.");
        for (int what : new int[] {-1, 11, 12, MIN, MAX, NONE}) {
            edges.refused("what " + what, States.RICH, x -> x.count(what), BAD);
        }
    }

    private static int partyAtFirst() {
        RidgeClaps x = States.nowhere();
        x.come(0);
        return x.count(1);
    }
}
