/** Promises 21 to 25: texts. */
public final class TextsTest {
    private static final int BAD = RidgeClaps.BAD, FULL = RidgeClaps.FULL, NONE = RidgeClaps.NONE;
    private static final int MIN = Integer.MIN_VALUE, MAX = Integer.MAX_VALUE;
    private static final Due due = new Due("TextsTest");

    public static void main(String[] args) {
        feed();
        trim();
        numbersOfTexts();
        faults();
        depths();
        values();
        wholeTape();
        textTold();
        why();
        due.end();
    }

    private static void feed() {
        RidgeClaps x = new RidgeClaps();
        for (int i = 1; i <= 8; i++) {
            due.is("21 feed", x.feed(MIN, -1, MAX), 12 * i);
        }
        due.is("21 full", x.feed(0, 0, 0), FULL);
        due.is("21 bytes", x.count(9), 96);
        x.trim(85);
        due.is("21 full by one", x.feed(0, 0, 0), FULL);
        x.trim(84);
        due.is("21 just room", x.feed(0, 0, 0), 96);
        // The highest byte of each number comes first.
        RidgeClaps y = new RidgeClaps();
        y.place(0, 50);
        y.feed(0x7269736b, 0x20343320, 0x20202020);
        due.is("21 order", y.text(), 0);
        due.is("21 risk 43", y.told(0, 3), 43);
        // Bytes above 127 are bytes, too.
        y.feed(0x7269736b, 0x2034ff20, 0x20202020);
        due.is("21 byte 255", y.text(), -106);
    }

    private static void trim() {
        RidgeClaps x = new RidgeClaps();
        due.is("22 empty", x.trim(0), 0);
        due.is("22 beyond", x.trim(1), BAD);
        x.feed(0, 0, 0);
        due.is("22 beyond", x.trim(13), BAD);
        due.is("22 below", x.trim(-1), BAD);
        due.is("22 MIN", x.trim(MIN), BAD);
        due.is("22 MAX", x.trim(MAX), BAD);
        due.is("22 all", x.trim(12), 12);
        due.is("22 some", x.trim(5), 5);
        due.is("22 not again", x.trim(6), BAD);
        due.is("22 bytes", x.count(9), 5);
        due.is("22 none", x.trim(0), 0);
    }

    private static void numbersOfTexts() {
        RidgeClaps x = new RidgeClaps();
        for (int i = 0; i < 14; i++) {
            due.is("23 number", Due.text(x, "odds " + i), i);
            due.is("23 the tape is used up", x.count(9), 0);
            due.is("23 texts", x.count(7), i + 1);
        }
        due.is("23 full", Due.text(x, "odds 1"), FULL);
        due.is("23 the tape is used up", x.count(9), 0);
        due.is("23 fault ahead of full", Due.text(x, "odds h"), -105);
        due.is("23 the tape is used up", x.count(9), 0);
        due.is("23 texts", x.count(7), 14);
        due.is("23 the fourteenth counts", x.sky(0, 1), 13);
        due.is("23 empty tape", x.text(), -100);
    }

    private static void fault(String signs, int place) {
        due.is("23 \"" + signs + "\"", Due.text(new RidgeClaps(), signs), place == NONE ? 0 : -100 - place);
    }

    private static void faults() {
        String[] fine = {
            "risk h", "  risk  h  ", "risk(h)", "risk!h", "risk 0", "risk 9999", "risk 0001", "odds d", "odds m",
            "turn f", "turn n", "turn m", "risk n", "risk h+n-1*2/3", "risk h<n", "risk h=n", "risk h>n",
            "risk h<n&n<h|h=n", "risk (h<n)<(n<h)", "risk h<n+1*2", "risk !!h", "risk !(h)", "risk ( ( h ) )",
            "risk 1 + 2", "risk 1+2 ", "risk!!!!!!!!h+!!!!!!!!h"};
        for (String f : fine) {
            fault(f, NONE);
        }
        Object[][] wrong = {
            {"", 0}, {"   ", 3}, {"risk", 4}, {"risk ", 5}, {"ris h", 0}, {"risks h", 0}, {" turns h", 1}, {"risk5", 4},
            {"riskh", 0}, {"Risk h", 0}, {"risk H", 5}, {"5 h", 0}, {"(risk h)", 0}, {"risk risk h", 5}, {"risk hn", 5},
            {"risk d", 5}, {"risk m", 5}, {"risk f", 5}, {"odds h", 5}, {"odds n", 5}, {"odds f", 5}, {"turn h", 5},
            {"turn d", 5}, {"risk 12345", 5}, {"risk 1234 5", 10}, {"risk h5", 6}, {"risk 5h", 6}, {"risk h h", 7},
            {"risk -5", 5}, {"risk +5", 5}, {"risk h+", 7}, {"risk h+ ", 8}, {"risk h++h", 7}, {"risk h)", 6},
            {"risk (h", 7}, {"risk ()", 6}, {"risk (h))", 8}, {"risk h<n<h", 8}, {"risk h<n=h", 8}, {"risk h<=n", 7},
            {"risk h&&n", 7}, {"risk h||n", 7}, {"risk !", 6}, {"risk h!", 6}, {"risk h!=n", 6}, {"risk h%n", 6},
            {"risk h\tn", 6}, {"risk\th", 4}, {"risk h,", 6}, {"risk h(n)", 6}, {"risk (h)(n)", 8}, {"risk (h)n", 8},
            {"risk (h)5", 8}, {"risk |h", 5}, {"risk &h", 5}, {"risk <h", 5}, {"risk *h", 5}, {"risk /h", 5},
            {"risk !)h", 6}, {"risk (h<n<h)", 9}, {"risk h\0", 6}, {"\0", 0}, {"risk 12345h", 5}, {"risk h=1|h=2=3", 12},
            {"xisk h", 0}, {"rusk h", 0}, {"rish h", 0}, {"riska h", 0}, {"riskz h", 0},
            {"risk ha", 5}, {"risk hz", 5}, {"risk a", 5}, {"risk z", 5}, {"risk`h", 4}, {"risk{h", 4}, {"risk h`", 6},
            {"risk 5/", 7}, {"risk 5:", 6}, {"risk h : n", 7}, {"risk:h", 4}, {"risk12345", 4}, {"turnf", 0}, {"risk h-", 7}, {"risk h - - n", 9}};
        for (Object[] w : wrong) {
            fault((String) w[0], (Integer) w[1]);
        }
    }

    private static void depths() {
        fault("risk((((((((h))))))))", NONE);
        fault("risk(((((((((h)))))))))", 12);
        fault("risk((((((((h))))))))+((((((((n))))))))", NONE);
        fault("risk (h+(h+(h+(h+(h+(h+(h+(h+(h", 5 + 8 * 3);
        fault("risk !!!!!!!!h", NONE);
        fault("risk !!!!!!!!!h", 13);
        fault("risk !!!!!!!!(h)", NONE);
        fault("risk !!!!!!!!(!h)", 14);
        fault("risk !!!!(!!!!(!h))", 15);
        fault("risk !!!!(!!!!(h))+!(!h)", NONE);
        fault("risk !(!(!(!(!(!(!(!(h))))))))", NONE);
        fault("risk !(!(!(!(!(!(!(!((h)))))))))", 21);
        fault("risk !(!(!(!(!(!(!(!(!h))))))))", 21);
        fault("risk (!!!!!!!!h)+(!!!!!!!!h)", NONE);
        fault("risk ((((((((h", 14);
        fault("risk !!!!!!!!", 13);
        RidgeClaps x = new RidgeClaps();
        for (int i = 0; i < 9; i++) {
            due.is("23 left open", Due.text(x, "risk !(!(!(h"), -112);
        }
        due.is("23 nothing is open from the last one", Due.text(x, "risk !(!(!(!(!(!(!(!(h))))))))"), 0);
    }

    private static void value(String e, int want) {
        RidgeClaps x = new RidgeClaps();
        x.place(0, 50);
        x.place(0, 51);
        x.place(0, 52);
        x.place(0, 53);
        due.is("23 " + e, Due.text(x, "risk " + e), 0);
        due.is("23 value of " + e, x.told(3, 3), want);
    }

    private static void values() {
        // Here h is 53 and n is 3.
        value("h", 53);
        value("n", 3);
        value("42", 42);
        value("0042", 42);
        value("1+2*3", 7);
        value("2*3+1", 7);
        value("20-5-3", 12);
        value("20-5+3", 18);
        value("90/4/5", 4);
        value("90/4*5", 99);
        value("7*9/10", 6);
        value("(1+2)*3", 9);
        value("h/0", 0);
        value("h/(n-3)+5", 5);
        value("(0-7)/2+10", 7);
        value("1<2", 1);
        value("2<2", 0);
        value("2=2", 1);
        value("2=3", 0);
        value("3>2", 1);
        value("2>2", 0);
        value("1+1=2", 1);
        value("2=1+1", 1);
        value("5&7", 1);
        value("5&0", 0);
        value("0|7", 1);
        value("0|0", 0);
        value("1&1", 1);
        value("1&0", 0);
        value("0&1", 0);
        value("1|1", 1);
        value("1|0", 1);
        value("0|1", 1);
        value("0", 0);
        value("1|1&0", 1);
        value("(1|1)&0", 0);
        value("0&0|1", 1);
        value("1<2&2<1", 0);
        value("1<2|2<1", 1);
        value("2&1=1", 1);
        value("2|1=2", 1);
        value("!0", 1);
        value("!5", 0);
        value("!!5", 1);
        value("!0+5", 6);
        value("!n*9+4", 4);
        value("!(n=3)", 0);
        value("(n=3)*40+(n=2)*30", 40);
        value("5-(0-3)", 8);
        int wrapped = 9999 * 9999 * 9999;
        value("9999*9999*9999/9999/999", Math.max(0, Math.min(99, wrapped / 9999 / 999)));
        value("9999*9999*9999<0", wrapped < 0 ? 1 : 0);
        value("8192*8192*32<0", 1);
        value("8192*8192*32/(0-1)<0", 1);
        value("8192*8192*32-1>0", 1);
        value("h-n>49", 1);
        value("h-n>50", 0);
        value("h-n=50", 1);
    }

    private static void wholeTape() {
        StringBuilder b = new StringBuilder("risk 1");
        while (b.length() + 2 <= 96) {
            b.append("+1");
        }
        RidgeClaps x = new RidgeClaps();
        x.place(0, 10);
        due.is("23 96 bytes", Due.text(x, b.toString()), 0);
        due.is("23 their sum", x.told(0, 3), 46);
        due.is("24 their leaves", x.textTold(0, 1), 46);
        due.is("23 96 bytes that end too soon", Due.text(x, "risk" + " ".repeat(92)), -196);
        due.is("23 96 bytes, the last one wrong", Due.text(x, "risk 1" + " ".repeat(89) + "2"), -195);
    }

    private static void textTold() {
        RidgeClaps x = new RidgeClaps();
        due.is("24 none", x.textTold(0, 0), BAD);
        Due.text(x, "turn !f+(m*n)/3-3<0|1");
        Due.text(x, "risk 5");
        Due.text(x, "odds d&m");
        due.is("24 key", x.textTold(0, 0), 2);
        due.is("24 leaves", x.textTold(0, 1), 7);
        due.is("24 key", x.textTold(1, 0), 0);
        due.is("24 leaves", x.textTold(1, 1), 1);
        due.is("24 key", x.textTold(2, 0), 1);
        due.is("24 leaves", x.textTold(2, 1), 2);
        int[][] wrong = {{-1, 0}, {3, 0}, {14, 0}, {0, -1}, {0, 2}, {MIN, 0}, {MAX, 0}, {0, MIN}, {0, MAX}};
        for (int[] w : wrong) {
            due.is("24 textTold", x.textTold(w[0], w[1]), BAD);
        }
    }

    private static void why() {
        RidgeClaps x = new RidgeClaps();
        for (int wrong : new int[] {-1, 3, MIN, MAX}) {
            due.is("25 why", x.why(wrong), BAD);
        }
        x.place(0, 50);
        for (int key = 0; key < 3; key++) {
            due.is("25 none", x.why(key), NONE);
        }
        Due.text(x, "odds 7");
        due.is("25 odds", x.why(1), 0);
        due.is("25 risk", x.why(0), NONE);
        due.is("25 turn", x.why(2), NONE);
        x.keep();
        Due.text(x, "odds 8");
        Due.text(x, "turn 0");
        due.is("25 the last one told", x.why(1), 1);
        due.is("25 turn", x.why(2), 2);
        due.is("25 the last one counts", x.sky(0, 1), 8);
        Due.text(x, "odds 9 9");
        due.is("25 a fault changes nothing", x.why(1), 1);
        x.back();
        due.is("25 back", x.why(1), 0);
        due.is("25 back", x.why(2), NONE);
        due.is("25 back", x.sky(0, 1), 7);
        due.is("25 numbers go on", Due.text(x, "risk 3"), 1);
        due.is("25 risk", x.why(0), 1);
    }
}
