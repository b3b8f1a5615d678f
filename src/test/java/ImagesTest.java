/** Promises 35 to 39: rows that wait, images, counts. */
public final class ImagesTest {
    private static final int BAD = RidgeClaps.BAD, NO = RidgeClaps.NO, FULL = RidgeClaps.FULL, NONE = RidgeClaps.NONE;
    private static final int MIN = Integer.MIN_VALUE, MAX = Integer.MAX_VALUE;
    private static final Due due = new Due("ImagesTest");

    public static void main(String[] args) {
        tell();
        checkRefused();
        checkRows();
        checkByImage();
        checkByTexts();
        keepAndBack();
        notInTheImage();
        backAgain();
        count();
        due.end();
    }

    private static void tell() {
        RidgeClaps x = new RidgeClaps();
        for (int i = 1; i <= 60; i++) {
            due.is("35 tell", x.tell(MIN), i);
        }
        due.is("35 full", x.tell(1), FULL);
        due.is("35 waiting", x.count(8), 60);
        x.check(0);
        due.is("35 again", x.tell(1), 1);
    }

    private static void checkRefused() {
        RidgeClaps x = new RidgeClaps();
        for (int n : new int[] {0, 31, -1, MIN, MAX}) {
            x.tell(1);
            due.is("36 bad ahead of no", x.check(n), BAD);
            due.is("36 none wait then", x.count(8), 0);
        }
        x.tell(1);
        due.is("36 no image", x.check(1), NO);
        due.is("36 none wait then", x.count(8), 0);
        x.keep();
        due.is("36 bad", x.check(31), BAD);
        due.is("36 none told, though due", x.check(1), 1);
        x.tell(0);
        x.tell(0);
        due.is("36 nowhere", x.check(1), 0);
        due.is("36 none wait then", x.count(8), 0);
    }

    private static RidgeClaps storm() {
        RidgeClaps x = new RidgeClaps();
        x.seed(4711);
        x.deal(16);
        for (int i = 0; i < 16; i++) {
            x.set(i, 2, 0);
        }
        x.storm(0, 25);
        x.come(8);
        return x;
    }

    /** MET and STRUCK behind each of n minutes, by run; the object is as its image afterwards. */
    private static int[] minutesTold(RidgeClaps x, int n) {
        int[] row = new int[2 * n];
        for (int i = 0; i < n; i++) {
            x.run(1);
            row[2 * i] = x.count(5);
            row[2 * i + 1] = x.count(6);
        }
        x.back();
        return row;
    }

    private static void tellAll(RidgeClaps x, int[] row, int many) {
        for (int i = 0; i < many; i++) {
            x.tell(row[i]);
        }
    }

    private static void checkRows() {
        RidgeClaps x = storm();
        x.keep();
        int[] row = minutesTold(x, 30);
        due.holds("36 the row is worth checking", row[58] > 0);
        tellAll(x, row, 60);
        due.is("36 all", x.check(30), 0);
        tellAll(x, row, 14);
        due.is("36 seven minutes", x.check(7), 0);
        tellAll(x, row, 14);
        due.is("36 one is missing", x.check(8), 15);
        tellAll(x, row, 15);
        due.is("36 one is missing", x.check(8), 16);
        tellAll(x, row, 15);
        due.is("36 one too many", x.check(7), 15);
        tellAll(x, row, 60);
        due.is("36 many too many", x.check(7), 15);
        for (int wrong = 0; wrong < 20; wrong++) {
            RidgeClaps y = storm();
            y.keep();
            int[] other = row.clone();
            other[wrong]++;
            tellAll(y, other, 20);
            due.is("36 number " + wrong + " is not", y.check(10), 1 + wrong);
        }
        due.is("36 check changes no state", x.count(2), 0);
        due.is("36 check changes no z", x.count(10), storm().count(10));
        due.is("36 nor place", x.count(1), 8);
    }

    private static void checkByImage() {
        RidgeClaps x = storm();
        x.step(0);
        x.step(2);
        x.keep();
        int[] row = minutesTold(x, 6);
        x.come(1);
        x.storm(0, 90);
        x.seed(3);
        x.turns(3, 3);
        Due.text(x, "risk 9");
        x.safest(9);
        tellAll(x, row, 12);
        due.is("36 by the image, not as it is", x.check(6), 0);
        due.is("36 state stays", x.count(1), 1);
        due.is("36 state stays", x.count(3), 90);
        RidgeClaps hollow = new RidgeClaps();
        for (int height : new int[] {39, 2, 39}) {
            hollow.place(0, height);
        }
        Due.text(hollow, "risk h");
        Due.text(hollow, "odds 100");
        hollow.seed(9);
        hollow.come(1);
        hollow.keep();
        int[] stays = minutesTold(hollow, 3);
        due.is("36 stays", stays[4], 600);
        hollow.set(1, 1, 99);
        hollow.set(2, 1, 0);
        hollow.safest(9);
        tellAll(hollow, stays, 6);
        due.is("36 by the RISKS of the image", hollow.check(3), 0);
        RidgeClaps late = new RidgeClaps();
        for (int i = 0; i < 166; i++) {
            late.run(60);
        }
        late.run(37);
        late.keep();
        tellAll(late, new int[4], 4);
        due.is("36 two minutes are left", late.check(30), 0);
        tellAll(late, new int[6], 6);
        due.is("36 two minutes are left", late.check(3), 5);
        tellAll(late, new int[2], 2);
        due.is("36 one of them", late.check(1), 0);
    }

    private static void checkByTexts() {
        RidgeClaps x = storm();
        Due.text(x, "risk h/2+n");
        Due.text(x, "odds 90-d-m");
        x.keep();
        int[] row = minutesTold(x, 9);
        due.holds("36 the row is worth checking", row[16] > 0);
        Due.text(x, "risk 5");
        Due.text(x, "odds 0");
        tellAll(x, row, 18);
        due.is("36 by the texts of the image", x.check(9), 0);
        due.is("36 the texts stay", x.sky(0, 1), 0);
    }

    private static void keepAndBack() {
        RidgeClaps x = new RidgeClaps();
        due.is("38 none", x.back(), NO);
        due.is("37 keep", x.keep(), 0);
        due.is("38 back", x.back(), 0);
        x = storm();
        x.set(3, 2, 1);
        Due.text(x, "turn f");
        x.step(2);
        due.is("37 keep", x.keep(), 16);
        int[] told = all(x);
        x.place(1, 1);
        x.turns(0, 5);
        x.set(1, 1, (x.told(1, 1) + 1) % 100);
        x.set(3, 2, 0);
        x.seed(1);
        x.storm(0, 1);
        x.storm(1, 1);
        x.step(0);
        x.come(NONE);
        Due.text(x, "odds 100");
        Due.text(x, "turn 0");
        due.is("38 back", x.back(), 16);
        same("38 back", all(x), told);
    }

    private static void notInTheImage() {
        RidgeClaps x = new RidgeClaps();
        x.place(0, 10);
        x.keep();
        x.sheet(0, 0, 1);
        x.mark(0, 0, 7);
        x.lay(0, 3, 8);
        x.tell(1);
        x.feed(0, 0, 0);
        due.is("38 back", x.back(), 1);
        due.is("38 sheets stay", x.reads(0), 0);
        due.is("38 slots stay", x.rest(0, 5), 3);
        due.is("38 waiting stays", x.count(8), 1);
        due.is("38 the tape stays", x.count(9), 12);
    }

    private static void backAgain() {
        int[] told = all(storm());
        for (int times = 1; times <= 3; times++) {
            RidgeClaps x = storm();
            x.keep();
            for (int i = 0; i < times; i++) {
                x.run(5 + i);
                x.turns(2, i);
                x.set(4, 1, i);
                Due.text(x, "odds " + (60 + i));
                due.is("38 texts go on from the image", x.count(7), 1);
                x.back();
            }
            same("38 back " + times + " times", all(x), told);
        }
        RidgeClaps later = storm();
        later.keep();
        later.run(5);
        RidgeClaps last = storm();
        last.keep();
        last.run(5);
        last.keep();
        last.run(5);
        last.back();
        same("37 the last image", all(last), all(later));
    }

    private static int[] all(RidgeClaps x) {
        int[] row = new int[8 + 3 + 24 * 5 + 14 * 2 + 61];
        int n = 0;
        for (int what = 0; what < 8; what++) {
            row[n++] = x.count(what);
        }
        row[n++] = x.count(10);
        for (int i = 0; i < 24; i++) {
            for (int what = 0; what < 5; what++) {
                row[n++] = x.told(i, what);
            }
        }
        for (int key = 0; key < 2; key++) {
            row[n++] = x.why(key + 1);
        }
        for (int i = 0; i < 14; i++) {
            row[n++] = x.textTold(i, 0);
            row[n++] = x.textTold(i, 1);
        }
        for (int t = 0; t <= 60; t++) {
            row[n++] = x.sky(t, 1);
        }
        return row;
    }

    private static void same(String what, int[] got, int[] want) {
        for (int i = 0; i < want.length; i++) {
            due.is(what + ", number " + i, got[i], want[i]);
        }
    }

    private static void count() {
        RidgeClaps x = new RidgeClaps();
        for (int what : new int[] {-1, 11, MIN, MAX}) {
            due.is("39 bad", x.count(what), BAD);
        }
        x.place(0, 99);
        x.place(3, 99);
        x.come(1);
        x.storm(0, 5);
        x.storm(1, -2);
        Due.text(x, "odds 100-d");
        x.tell(4);
        x.tell(4);
        x.feed(1, 1, 1);
        x.seed(1);
        x.step(1);
        int z = 1103515245 + 12345;
        int[] counts = {2, 0, 1, 7, -2, 38 * 95, (z >>> 8) % 10000 < 38 * 95 ? 1 : 0, 1, 2, 12, z};
        for (int what = 0; what < counts.length; what++) {
            due.is("39 count(" + what + ")", x.count(what), counts[what]);
        }
    }
}
