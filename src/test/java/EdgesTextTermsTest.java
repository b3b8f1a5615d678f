/** The boundary cases of the terms, part 4: texts, their faults and what they give. */
public final class EdgesTextTermsTest {
    private static final int FULL = RidgeClaps.FULL, NONE = RidgeClaps.NONE;
    private static final String[] KEYS = {"risk", "odds", "turn"};
    private static final String[] NAMES = {"hn", "dm", "fnm"};
    private static final Edges edges = new Edges("EdgesTextTermsTest");

    public static void main(String[] args) {
        many();
        keys();
        or();
        and();
        test();
        sum();
        term();
        piece();
        names();
        namesGive();
        words();
        blanks();
        faultWhere();
        faultByEveryByte();
        faultDepth();
        faultEnd();
        values();
        toldLast();
        edges.end();
    }

    /** The place of the FAULT of a text, or NONE. */
    private static int faultOf(String signs) {
        int answer = Due.text(new RidgeClaps(), signs);
        return answer == 0 ? NONE : -100 - answer;
    }

    private static void fine(String signs) {
        edges.is("\"" + signs + "\" is a text", faultOf(signs), NONE);
    }

    private static void fault(String signs, int place) {
        edges.is("\"" + signs + "\" has a fault", faultOf(signs), place);
    }

    /** What a text for risk gives at PLACE 3, 53 high. */
    private static void gives(String e, int want) {
        RidgeClaps x = States.flat(50, 51, 52, 53);
        Due.text(x, "risk " + e);
        edges.is(e + " gives", x.told(3, 3), want);
    }

    private static void many() {
        edges.ofTerms(4, "4 TEXTS, 14 at most, numbered from 0, from THE TAPE (96 bytes at most; an act that reads it uses it up, whatever it answers): KEY E.");
        RidgeClaps x = new RidgeClaps();
        for (int i = 0; i < 14; i++) {
            edges.is("number " + i, Due.text(x, KEYS[i % 3] + " 5"), i);
        }
        edges.is("no 15th", Due.text(x, "risk 5"), FULL);
        edges.is("there are 14 still", x.count(7), 14);
        edges.is("used up by FULL", x.count(9), 0);
        edges.is("96 bytes", Due.text(new RidgeClaps(), " ".repeat(90) + "risk 5"), 0);
        RidgeClaps y = new RidgeClaps();
        Due.lay(y, " ".repeat(96));
        edges.is("no 97th byte", y.feed(0, 0, 0), FULL);
        RidgeClaps told = new RidgeClaps();
        Due.text(told, "risk 5");
        edges.is("used up by a text", told.count(9), 0);
        Due.text(told, "risk 5)");
        edges.is("used up by a fault", told.count(9), 0);
        fault("5", 0);
        fault("risk", 4);
        fault("h risk", 0);
    }

    private static void keys() {
        edges.ofTerms(4, "KEY: risk | odds | turn.");
        for (int key = 0; key < 3; key++) {
            RidgeClaps x = new RidgeClaps();
            Due.text(x, KEYS[key] + " 5");
            edges.is("key of " + KEYS[key], x.textTold(0, 0), key);
        }
        for (String word : new String[] {"ris", "riskk", "rsik", "rick", "odd", "oddss", "ods", "tur", "turns", "trun", "h", "x", "riskodds", "Risk", "RISK", "rIsk", "5", "(", "!",
            "xisk", "rxsk", "rixk", "risx", "xdds", "oxds", "odxs", "oddx", "xurn", "txrn", "tuxn", "turx"}) {
            fault(word + " 5", 0);
        }
        fault("risk risk 5", 5);
        fault("risk odds 5", 5);
    }

    private static void or() {
        edges.ofTerms(4, "E, the loosest first: OR: AND { | AND };");
        gives("0|0", 0);
        gives("0|1", 1);
        gives("1|0", 1);
        gives("1|1", 1);
        gives("0|0|0|5", 1);
        gives("1|0&0", 1);
        gives("0&0|1", 1);
        gives("0|2<1", 0);
        gives("5|0", 1);
        fault("risk |1", 5);
        fault("risk 1||1", 7);
        fault("risk 1|", 7);
    }

    private static void and() {
        edges.ofTerms(4, "AND: TEST { & TEST };");
        gives("0&0", 0);
        gives("0&1", 0);
        gives("1&0", 0);
        gives("1&1", 1);
        gives("2&4", 1);
        gives("1&1&1&0", 0);
        gives("1&2=2", 1);
        gives("0=0&5", 1);
        gives("1&1<0", 0);
        fault("risk &1", 5);
        fault("risk 1&&1", 7);
        fault("risk 1&", 7);
    }

    private static void test() {
        edges.ofTerms(4, "TEST: SUM [ (< | = | >) SUM ];");
        gives("1<2", 1);
        gives("2<2", 0);
        gives("3<2", 0);
        gives("1=2", 0);
        gives("2=2", 1);
        gives("3=2", 0);
        gives("1>2", 0);
        gives("2>2", 0);
        gives("3>2", 1);
        gives("1+1<1+2", 1);
        gives("2=1+1", 1);
        gives("0-1<0", 1);
        gives("(3>2)>0", 1);
        gives("1<2&2<3", 1);
        gives("3<2|2<3", 1);
        for (String sign : new String[] {"<", "=", ">"}) {
            for (String other : new String[] {"<", "=", ">"}) {
                fault("risk 1" + sign + "2" + other + "3", 8);
                fault("risk 1" + sign + other + "3", 7);
            }
            fault("risk " + sign + "3", 5);
            fault("risk 3" + sign, 7);
            fault("risk (1" + sign + "2" + sign + "3)", 9);
            fine("risk (1" + sign + "2)" + sign + "3");
            fine("risk 1" + sign + "(2" + sign + "3)");
            fine("risk 1" + sign + "2&3" + sign + "4|5" + sign + "6");
        }
    }

    private static void sum() {
        edges.ofTerms(4, "SUM: TERM { (+ | -) TERM };");
        gives("1+2", 3);
        gives("5-2", 3);
        gives("9-3-2", 4);
        gives("9-3+2", 8);
        gives("9-(3-2)", 8);
        gives("2+3*4", 14);
        gives("2*3+4", 10);
        gives("20-2*3", 14);
        gives("1+1+1+1+1+1", 6);
        fault("risk +1", 5);
        fault("risk -1", 5);
        fault("risk 1+-1", 7);
        fault("risk 1-+1", 7);
        fault("risk 1+", 7);
        fault("risk 1-", 7);
    }

    private static void term() {
        edges.ofTerms(4, "TERM: PIECE { (* | /) PIECE };");
        gives("3*4", 12);
        gives("13/4", 3);
        gives("90/4/5", 4);
        gives("9/2*2", 8);
        gives("9*2/4", 4);
        gives("90/(9/3)", 30);
        gives("2*3*4", 24);
        fault("risk *1", 5);
        fault("risk /1", 5);
        fault("risk 1**1", 7);
        fault("risk 1//1", 7);
        fault("risk 1*", 7);
        fault("risk 1/", 7);
        fault("risk 1%2", 6);
    }

    private static void piece() {
        edges.ofTerms(4, "PIECE: NUMBER (1 to 4 digits) | NAME | ! PIECE | ( E ).");
        gives("0", 0);
        gives("7", 7);
        gives("42", 42);
        gives("042", 42);
        gives("0042", 42);
        gives("0000", 0);
        gives("9999-9950", 49);
        fine("risk 9999");
        fault("risk 10000", 5);
        fault("risk 00000", 5);
        fault("risk 123456789", 5);
        fault("risk 1+12345", 7);
        gives("h", 53);
        gives("n", 3);
        gives("!0", 1);
        gives("!1", 0);
        gives("!7", 0);
        gives("!!7", 1);
        gives("!!0", 0);
        gives("!0+4", 5);
        gives("!0*9", 9);
        gives("3*!0", 3);
        gives("!0=1", 1);
        gives("!(0&1)", 1);
        gives("(7)", 7);
        gives("((7))", 7);
        gives("(1|0)+6", 7);
        gives("(2+3)*4", 20);
        fault("risk ()", 6);
        fault("risk (1", 7);
        fault("risk 1)", 6);
        fault("risk (1))", 8);
        fault("risk )", 5);
        fault("risk !", 6);
        fault("risk !)", 6);
        fault("risk !+1", 6);
        fault("risk 1!", 6);
        fault("risk 1!2", 6);
        fault("risk 1(2)", 6);
        fault("risk (1)(2)", 8);
        fault("risk (1)2", 8);
        fault("risk (1)h", 8);
        fault("risk 1 2", 7);
        fault("risk h n", 7);
    }

    private static void names() {
        edges.ofTerms(4, "NAMES, each one letter:");
        for (int key = 0; key < 3; key++) {
            for (char letter = 'a'; letter <= 'z'; letter++) {
                boolean isName = NAMES[key].indexOf(letter) >= 0;
                edges.is(KEYS[key] + " " + letter, faultOf(KEYS[key] + " " + letter), isName ? NONE : 5);
            }
            for (char letter = 'A'; letter <= 'Z'; letter++) {
                edges.is(KEYS[key] + " " + letter, faultOf(KEYS[key] + " " + letter), 5);
            }
            fault(KEYS[key] + " " + NAMES[key], 5);
            fault(KEYS[key] + " " + NAMES[key].charAt(0) + NAMES[key].charAt(0), 5);
        }
    }

    private static void namesGive() {
        edges.ofTerms(4, "of risk h HEIGHT, n the number of the PLACE;");
        RidgeClaps x = States.flat(new int[24]);
        x.set(23, 1, 99);
        Due.text(x, "risk h");
        edges.is("h 0", x.told(0, 3), 0);
        edges.is("h 99", x.told(23, 3), 99);
        Due.text(x, "risk n");
        edges.is("n 0", x.told(0, 3), 0);
        edges.is("n 23", x.told(23, 3), 23);
        edges.ofTerms(4, "of odds d, m how many minutes on;");
        RidgeClaps y = new RidgeClaps();
        y.storm(0, 99);
        y.storm(1, 2);
        Due.text(y, "odds d");
        edges.is("d 99", y.sky(0, 1), 99);
        edges.is("d then", y.sky(40, 1), 19);
        edges.is("d 0", y.sky(50, 1), 0);
        Due.text(y, "odds m");
        edges.is("m 0", y.sky(0, 1), 0);
        edges.is("m 60", y.sky(60, 1), 60);
        edges.ofTerms(4, "of turn f FAR then, n the PLACE at which it is then, m how many minutes on.");
        edges.is("f 51, then 49: on, back, back, back", turned("turn f<50", 51, 2), 1 + 2 + 1 + 0);
        edges.is("n 1, then 2: on, back, and so on", turned("turn n=2", 51, 2), 30 * (1 + 2));
        edges.is("m 0, then 1, then 2: on, on, back, back, back", turned("turn m>1", 51, 2), 1 + 2 + 3 + 2 + 1 + 0);
        edges.is("m is 59 at last", turned("turn n=2&!(m=59)|n=1&m=58", 51, 2), 29 * (1 + 2) + 1 + 0);
    }

    /** BY RULE of 60 minutes from PLACE 1 of 0 .. 3, whose RISKS are their numbers, with ODDS of 1. */
    private static int turned(String law, int far, int pace) {
        RidgeClaps x = States.flat(0, 10, 20, 30);
        x.storm(0, far);
        x.storm(1, pace);
        Due.text(x, "odds 1");
        Due.text(x, law);
        return x.rule(1, 60, 0);
    }

    private static void words() {
        edges.ofTerms(4, "A word is a row of letters a .. z, or of digits, as long as it goes; any other byte is a sign by itself.");
        fault("riskh", 0);
        fault("risk5", 4);
        fault("risk hn", 5);
        fault("risk h5", 6);
        fault("risk 5h", 6);
        fault("5risk", 0);
        fine("risk(h)");
        fine("risk!h");
        fine("risk(5)+(h)");
        for (char sign : new char[] {'`', '{', '@', '[', '_', '/', ':', '.', ',', ';', '#', '"', '\'', '\\', '\t', '\n', '\r', 0, 127, 128, 160, 255}) {
            edges.is("byte " + (int) sign + " is no letter of a word", faultOf("risk" + sign + "h"), 4);
            edges.is("byte " + (int) sign + " is no digit of a word", faultOf("risk 5" + sign), sign == '/' ? 7 : 6);
        }
        fine("risk h<n");
        fine("risk h<n&n<h");
        gives("1234/100", 12);
        fault("risk 5a", 6);
        fault("risk 5z", 6);
    }

    private static void blanks() {
        edges.ofTerms(4, "Between words and signs, and at the ends, there may be blanks (byte 32); a word right behind another one needs one.");
        fine("risk h");
        fine(" risk h");
        fine("risk h ");
        fine("   risk   h   ");
        fine("risk ( h + n ) * ! ! 5 < 3 & h = 1 | n > 2");
        fine("risk(h+n)*!!5<3&h=1|n>2");
        fine("risk(h)");
        fine("risk!5");
        fault("riskh", 0);
        fault("risk5", 4);
        fault("risk5 5", 4);
        fault("turn5", 4);
        fault("odds12", 4);
        fault("ri sk h", 0);
        fault("risk 1 2", 7);
        fault("risk\th", 4);
        fault("risk\nh", 4);
        fault("risk\u00a0h", 4);
        fault("risk\0h", 4);
        fault("\trisk h", 0);
        fault("risk h\t", 6);
        fault("risk h\0", 6);
    }

    private static void faultWhere() {
        edges.ofTerms(4, "FAULT: the first byte of the first word or sign with which no TEXT goes on (a word that needs a blank ahead of it, a NUMBER of more than 4 digits,");
        fault("risk xyz", 5);
        fault("risk h xyz", 7);
        fault("risk h+xyz", 7);
        fault("risk   xyz", 7);
        fault("risk h   xyz", 9);
        fault("risk5", 4);
        fault("risk5)))", 4);
        fault("risk12345", 4);
        fault("risk 12345", 5);
        fault("risk  12345 ", 6);
        fault("risk 1234 5", 10);
        fault("risk 12345)", 5);
        fault("risk h5", 6);
        fault("risk 5h", 6);
        fault("risk (h5)", 7);
        fault("risk x)", 5);
        fault("risk h)x", 6);
        fault("risk h<n<x", 8);
        fault("risk h n x", 7);
        fault("x )", 0);
        fault("  x", 2);
    }

    /** Each byte at each sort of place: what may stand there, what may not. */
    private static void faultByEveryByte() {
        edges.ofTerms(4, "FAULT: the first byte of the first word or sign with which no TEXT goes on");
        for (int b = 0; b < 256; b++) {
            char c = (char) b;
            boolean digit = c >= '0' && c <= '9';
            boolean letter = c >= 'a' && c <= 'z';
            boolean two = "|&<=>+-*/".indexOf(c) >= 0;
            edges.is("byte " + b + " alone", faultOf("" + c), c == ' ' ? 1 : 0);
            edges.is("byte " + b + " for a piece", faultOf("risk " + c), "hn".indexOf(c) >= 0 || digit ? NONE : "(! ".indexOf(c) >= 0 ? 6 : 5);
            edges.is("byte " + b + " behind a key", faultOf("risk" + c + "1"), letter ? 0 : digit ? 4 : "(".indexOf(c) >= 0 ? 6 : "! ".indexOf(c) >= 0 ? NONE : 4);
            edges.is("byte " + b + " behind a piece", faultOf("risk 1" + c), digit || c == ' ' ? NONE : two ? 7 : 6);
            edges.is("byte " + b + " between pieces", faultOf("risk 1" + c + "1"), digit || two ? NONE : c == ' ' ? 7 : 6);
            edges.is("byte " + b + " within brackets", faultOf("risk(1" + c), c == ')' ? NONE : digit || c == ' ' || two ? 7 : 6);
            edges.is("byte " + b + " behind brackets", faultOf("risk(1)" + c), c == ' ' ? NONE : two ? 8 : 7);
            edges.is("byte " + b + " behind a test", faultOf("risk 1<1" + c), digit || c == ' ' ? NONE : "<=>".indexOf(c) < 0 && two ? 9 : 8);
            edges.is("byte " + b + " behind a sign", faultOf("risk 1+" + c), "hn".indexOf(c) >= 0 || digit ? NONE : "(! ".indexOf(c) >= 0 ? 8 : 7);
        }
    }

    private static String times(String s, int many) {
        return s.repeat(many);
    }

    private static void faultDepth() {
        edges.ofTerms(4, "the ninth ( that would be open within others (the outermost counted), the ninth ! likewise (open till its PIECE ends), each by itself);");
        fine("risk" + times("(", 7) + "h" + times(")", 7));
        fine("risk" + times("(", 8) + "h" + times(")", 8));
        fault("risk" + times("(", 9) + "h" + times(")", 9), 12);
        fault("risk" + times("(", 9), 12);
        fault("risk" + times("( ", 9), 20);
        fault("risk " + times("(1+", 9), 29);
        fine("risk " + times("(1+", 8) + "1" + times(")", 8));
        fine("risk" + times("(", 8) + "h" + times(")", 8) + "+" + times("(", 8) + "h" + times(")", 8));
        fine("risk " + times("(h)+", 20) + "h");
        fault("risk (h)+" + times("(", 9), 17);
        fine("risk" + times("(", 8) + "h)+(h" + times(")", 8));
        fault("risk" + times("(", 8) + "h)+((h", 16);
        fine("risk" + times("!", 7) + "h");
        fine("risk" + times("!", 8) + "h");
        fault("risk" + times("!", 9) + "h", 12);
        fault("risk" + times("!", 9), 12);
        fault("risk" + times(" !", 9), 21);
        fine("risk" + times("!", 8) + "h+" + times("!", 8) + "h");
        fault("risk" + times("!", 8) + "h+" + times("!", 9) + "h", 22);
        fine("risk " + times("!h+", 20) + "h");
        fine("risk" + times("!", 8) + "(h)");
        fault("risk" + times("!", 8) + "(!h)", 13);
        fault("risk" + times("!", 8) + "(h+!h)", 15);
        fine("risk" + times("!", 8) + "(h)+!h");
        fine("risk" + times("!", 8) + "(h)*" + times("!", 8) + "(h)");
        fine("risk" + times("!", 4) + "(" + times("!", 4) + "h)");
        fault("risk" + times("!", 4) + "(" + times("!", 5) + "h)", 13);
        fine("risk" + times("!", 4) + "(" + times("!", 4) + "h+" + times("!", 4) + "h)");
        fine("risk" + times("!(", 8) + "h" + times(")", 8));
        fault("risk" + times("!(", 8) + "(h", 20);
        fault("risk" + times("!(", 8) + "!h", 20);
        fine("risk" + times("(!", 8) + "h" + times(")", 8));
        fault("risk" + times("(!", 8) + "(", 20);
        fault("risk" + times("(!", 8) + "!", 20);
        fine("risk" + times("!(", 8) + "h" + times(")", 8) + "+" + times("!(", 8) + "h" + times(")", 8));
        gives(times("!", 8) + "h", 1);
        gives(times("!", 7) + "h", 0);
        gives(times("(", 8) + "h" + times(")", 8), 53);
        RidgeClaps x = new RidgeClaps();
        Due.text(x, "risk" + times("!(", 8) + "x");
        edges.is("nothing stays open behind a fault", Due.text(x, "risk" + times("!(", 8) + "h" + times(")", 8)), 0);
    }

    private static void faultEnd() {
        edges.ofTerms(4, "the end (the place behind the last byte), if it comes too soon.");
        fault("", 0);
        fault(" ", 1);
        fault("risk", 4);
        fault("risk ", 5);
        fault("risk  ", 6);
        fault("risk (", 6);
        fault("risk !", 6);
        fault("risk (h", 7);
        fault("risk (h ", 8);
        fault("risk ((h)", 9);
        fault("risk h+", 7);
        fault("risk h+  ", 9);
        fault("risk h<", 7);
        fault("risk h&", 7);
        fault("risk h|", 7);
        fault("risk h*", 7);
        fault("risk h/", 7);
        fault("risk h-", 7);
        fault("risk h=", 7);
        fault("risk h>", 7);
        fault("risk" + " ".repeat(92), 96);
        fault("risk h+" + " ".repeat(89), 96);
        fault("risk (h" + " ".repeat(88), 95);
        fault(" ".repeat(96), 96);
        RidgeClaps cut = new RidgeClaps();
        Due.lay(cut, "risk h+1");
        cut.trim(7);
        edges.is("the end of what is kept", cut.text(), -107);
    }

    private static void values() {
        edges.ofTerms(4, "Ints wrap; / is 0 by 0; tests, & | ! give 1 or 0 (what is not 0 is true; both sides are worked out).");
        String two31 = "8192*8192*32";
        gives(two31 + "<0", 1);
        gives(two31 + "-1>0", 1);
        gives("(" + two31 + "-1)+1<0", 1);
        gives("0-" + two31 + "<0", 1);
        gives(two31 + "*2", 0);
        gives(two31 + "/(0-1)=" + two31, 1);
        gives("0-9999*9999*9999/9999/9999", 10);
        gives("5/0", 0);
        gives("0/0", 0);
        gives("5/(n-3)", 0);
        gives("5/(n-3)+7", 7);
        gives("0/5", 0);
        gives(two31 + "/0", 0);
        gives("(0-1)&1", 1);
        gives("(0-1)|0", 1);
        gives("!(0-1)", 0);
        gives(two31 + "&1", 1);
        gives("!" + "(" + two31 + ")", 0);
        gives("1|5/0", 1);
        gives("0&5/0", 0);
        gives("5/0|1", 1);
        gives("7&9", 1);
        gives("7|9", 1);
        gives("(1<2)+(2=2)+(3>2)", 3);
        gives("(5&6)*9", 9);
    }

    private static void toldLast() {
        edges.ofTerms(4, "Of a KEY that TEXT counts that was told last.");
        RidgeClaps x = States.flat(50);
        edges.is("without one", x.told(0, 3), 5);
        Due.text(x, "risk 7");
        edges.is("the first", x.told(0, 3), 7);
        Due.text(x, "odds 9");
        edges.is("one of another key", x.told(0, 3), 7);
        Due.text(x, "risk 8");
        edges.is("the last", x.told(0, 3), 8);
        Due.text(x, "risk 9)");
        edges.is("none with a fault", x.told(0, 3), 8);
        for (int i = 3; i < 14; i++) {
            Due.text(x, "risk " + i);
        }
        edges.is("the 14th", x.told(0, 3), 13);
        Due.text(x, "risk 99");
        edges.is("none for which there is no room", x.told(0, 3), 13);
        edges.is("the other key all the time", x.sky(0, 1), 9);
    }
}
