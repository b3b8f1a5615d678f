import java.util.function.Supplier;

/** The boundary cases of promises 21 to 25: texts. */
public final class EdgesTextsTest {
    private static final int BAD = RidgeClaps.BAD, FULL = RidgeClaps.FULL, NONE = RidgeClaps.NONE;
    private static final int MIN = States.MIN, MAX = States.MAX;
    private static final Supplier<RidgeClaps> LONG = EdgesTextsTest::longTape;
    private static final Edges edges = new Edges("EdgesTextsTest");

    public static void main(String[] args) {
        feed();
        feedRefused();
        trim();
        text();
        textFault();
        textFull();
        textTold();
        why();
        edges.end(21, 25);
    }

    private static void feed() {
        edges.of(21, "Twelve bytes come to THE TAPE, the highest of each number first: how many it has.");
        RidgeClaps x = new RidgeClaps();
        for (int i = 1; i <= 8; i++) {
            edges.is("the " + i + ". twelve", x.feed(MIN, -1, MAX), 12 * i);
        }
        edges.is("96 are there", x.count(9), 96);
        RidgeClaps order = new RidgeClaps();
        order.place(0, 50);
        order.feed(0x7269736b, 0x2035322d, 0x28333429);
        edges.is("\"risk 52-(34)\" by its bytes", order.text(), 0);
        edges.is("52 less 34", order.told(0, 3), 18);
        for (int i = 0; i < 12; i++) {
            edges.is("byte " + i + " comes to place " + i, placeOfLoneByte(i), i);
        }
        edges.is("behind the bytes that are there", behind(), 17);
        edges.is("bytes of 255 are bytes", byte255(), -105);
    }

    /** All are blanks but one: a TEXT has its FAULT there. */
    private static int placeOfLoneByte(int place) {
        int[] v = {0x20202020, 0x20202020, 0x20202020};
        v[place / 4] ^= 1 << 24 - 8 * (place % 4);
        RidgeClaps x = new RidgeClaps();
        x.feed(v[0], v[1], v[2]);
        return -100 - x.text();
    }

    private static int behind() {
        RidgeClaps x = new RidgeClaps();
        x.place(0, 50);
        Due.lay(x, "risk 1");
        x.feed(States.four("7   "), States.four("    "), States.four("    "));
        x.text();
        return x.told(0, 3);
    }

    private static int byte255() {
        RidgeClaps x = new RidgeClaps();
        x.feed(States.four("risk"), 0x20ff2020, -1);
        return x.text();
    }

    private static RidgeClaps tapeOf(int length) {
        RidgeClaps x = States.rich();
        x.trim(0);
        for (int i = 0; i < 8; i++) {
            x.feed(States.four("risk"), States.four(" h+("), States.four("n) +"));
        }
        x.trim(length);
        return x;
    }

    private static RidgeClaps longTape() {
        return tapeOf(85);
    }

    private static void feedRefused() {
        edges.of(21, "FULL: it would have more than 96.");
        edges.refused("96 are there", States.CROWDED, x -> x.feed(1, 2, 3), FULL);
        edges.refused("85 are there", LONG, x -> x.feed(1, 2, 3), FULL);
        edges.refused("95 are there", () -> tapeOf(95), x -> x.feed(1, 2, 3), FULL);
        edges.is("84 are there", tapeOf(84).feed(1, 2, 3), 96);
        edges.is("83 are there", tapeOf(83).feed(1, 2, 3), 95);
        RidgeClaps x = tapeOf(96);
        x.text();
        edges.is("room again behind a text", x.feed(1, 2, 3), 12);
    }

    private static void trim() {
        edges.of(22, "THE TAPE keeps its first n bytes: n.");
        edges.is("n 0 of none", new RidgeClaps().trim(0), 0);
        RidgeClaps x = tapeOf(96);
        edges.is("n 96 of 96", x.trim(96), 96);
        edges.is("all are kept", x.count(9), 96);
        edges.is("n 95 of 96", x.trim(95), 95);
        edges.is("95 are kept", x.count(9), 95);
        edges.is("n 1 of 95", x.trim(1), 1);
        edges.is("n 0 of 1", x.trim(0), 0);
        edges.is("none are kept", x.count(9), 0);
        RidgeClaps first = new RidgeClaps();
        first.place(0, 50);
        first.feed(States.four("risk"), States.four(" 12+"), States.four("(34)"));
        first.trim(7);
        edges.is("the first are kept", first.text(), 0);
        edges.is("the others are gone", first.told(0, 3), 12);
        edges.same("n as many as there are: nothing changes", () -> {
            RidgeClaps r = States.rich();
            r.trim(24);
            return r;
        }, States.RICH);
        edges.of(22, "BAD.");
        for (int n : new int[] {-1, 25, 96, 97, MIN, MAX, NONE}) {
            edges.refused("n " + n + " of 24", States.RICH, r -> r.trim(n), BAD);
        }
        edges.refused("n 97 of 96", States.CROWDED, r -> r.trim(97), BAD);
        edges.refused("n 1 of none", States.NEW, r -> r.trim(1), BAD);
        edges.refused("bytes that were trimmed don't come back", LONG, r -> r.trim(86), BAD);
    }

    private static void text() {
        edges.of(23, "THE TAPE is a TEXT: its number.");
        RidgeClaps x = new RidgeClaps();
        for (int i = 0; i < 14; i++) {
            edges.is("text " + i, Due.text(x, "odds " + i), i);
            edges.is("text " + i + " is counted", x.count(7), i + 1);
            edges.is("text " + i + " counts", x.sky(0, 1), i);
        }
        RidgeClaps whole = new RidgeClaps();
        edges.is("of 96 bytes", Due.text(whole, "odds 7" + " ".repeat(90)), 0);
        edges.is("of 96 bytes: they are used up", whole.count(9), 0);
        edges.is("of 6 bytes, the fewest with a blank", Due.text(new RidgeClaps(), "odds 7"), 0);
        edges.is("of 6 bytes without a blank", Due.text(new RidgeClaps(), "odds!7"), 0);
        RidgeClaps used = new RidgeClaps();
        Due.text(used, "odds 7");
        edges.is("the tape is used up", used.count(9), 0);
        edges.is("no second text of the same bytes", used.text(), -100);
    }

    private static void textFault() {
        edges.of(23, "-100 less the place of its FAULT;");
        edges.is("place 0", Due.text(new RidgeClaps(), "odd 7"), -100);
        edges.is("place 95", Due.text(new RidgeClaps(), "odds 7" + " ".repeat(89) + ")"), -195);
        edges.is("place 96, the end", Due.text(new RidgeClaps(), "odds 7+" + " ".repeat(89)), -196);
        edges.is("an empty tape", new RidgeClaps().text(), -100);
        edges.is("blanks alone", Due.text(new RidgeClaps(), "   "), -103);
        for (String signs : new String[] {"", "risk", "odds 7 8", "risk h)", "turn d", "odds 12345", "risk h+2*(h"}) {
            edges.same("\"" + signs + "\" uses the tape up and changes nothing else", () -> {
                RidgeClaps x = States.rich();
                x.trim(0);
                Due.text(x, signs);
                return x;
            }, () -> {
                RidgeClaps x = States.rich();
                x.trim(0);
                return x;
            });
        }
        RidgeClaps x = new RidgeClaps();
        for (int i = 0; i < 14; i++) {
            Due.text(x, "odds " + i);
        }
        edges.is("the fault, ahead of full", Due.text(x, "odds 5 5"), -107);
        edges.is("the empty tape, ahead of full", x.text(), -100);
    }

    private static void textFull() {
        edges.of(23, "FULL.");
        Supplier<RidgeClaps> crowded = () -> {
            RidgeClaps x = States.crowded();
            x.trim(0);
            return x;
        };
        for (String signs : new String[] {"risk 1", "odds 1", "turn 1"}) {
            RidgeClaps x = crowded.get();
            edges.is("a 15th text, " + signs, Due.text(x, signs), FULL);
            edges.is("the tape is used up, " + signs, x.count(9), 0);
            edges.same("nothing else changes, " + signs, () -> {
                RidgeClaps y = crowded.get();
                Due.text(y, signs);
                return y;
            }, crowded);
        }
        RidgeClaps again = crowded.get();
        again.back();
        edges.is("room again behind the image, which has 3", Due.text(again, "odds 1"), 3);
    }

    private static void textTold() {
        edges.of(24, "Of a TEXT: what 0 KEY (0 risk, 1 odds, 2 turn), 1 how many NUMBERS and NAMES it has.");
        int[] keys = {0, 1, 2, 1};
        int[] leaves = {3, 2, 4, 3};
        for (int text = 0; text < 4; text++) {
            edges.is("key of text " + text, States.rich().textTold(text, 0), keys[text]);
            edges.is("leaves of text " + text, States.rich().textTold(text, 1), leaves[text]);
        }
        RidgeClaps x = new RidgeClaps();
        StringBuilder most = new StringBuilder("odds 1");
        while (most.length() < 96) {
            most.append("+1");
        }
        Due.text(x, most.toString());
        edges.is("46 leaves, the most there can be", x.textTold(0, 1), 46);
        Due.text(x, "odds 1");
        edges.is("one leaf, the fewest there can be", x.textTold(1, 1), 1);
        Due.text(x, "odds !(d)+9999");
        edges.is("signs are no leaves, four digits are one", x.textTold(2, 1), 2);
        edges.is("text 13", States.crowded().textTold(13, 0), 1);
        edges.of(24, "BAD.");
        for (int text : new int[] {-1, 4, 13, 14, MIN, MAX, NONE}) {
            edges.refused("text " + text, States.RICH, r -> r.textTold(text, 0), BAD);
            edges.refused("leaves of text " + text, States.RICH, r -> r.textTold(text, 1), BAD);
        }
        for (int what : new int[] {-1, 2, MIN, MAX, NONE}) {
            edges.refused("what " + what, States.RICH, r -> r.textTold(0, what), BAD);
        }
        edges.refused("no texts", States.NEW, r -> r.textTold(0, 0), BAD);
        edges.refused("text 14 of 14", States.CROWDED, r -> r.textTold(14, 0), BAD);
        RidgeClaps back = States.rich();
        back.back();
        edges.is("a text that the image has not", back.textTold(3, 0), BAD);
        edges.is("one that it has", back.textTold(2, 0), 2);
    }

    private static void why() {
        edges.of(25, "The TEXT that counts for a KEY.");
        edges.is("risk", States.rich().why(0), 0);
        edges.is("odds: the one told last", States.rich().why(1), 3);
        edges.is("turn", States.rich().why(2), 2);
        edges.is("the 14th", States.crowded().why(1), 13);
        RidgeClaps back = States.rich();
        back.back();
        edges.is("by the image", back.why(1), 1);
        back.trim(0);
        edges.is("told anew behind the image", Due.text(back, "odds 5"), 3);
        edges.is("it counts then", back.why(1), 3);
        edges.of(25, "BAD;");
        for (int key : new int[] {-1, 3, MIN, MAX, NONE}) {
            edges.refused("key " + key, States.RICH, r -> r.why(key), BAD);
            edges.refused("key " + key + " without texts", States.NEW, r -> r.why(key), BAD);
        }
        edges.of(25, "NONE.");
        String[] laws = {"risk 1", "odds 1", "turn 1"};
        for (int told = 0; told < 3; told++) {
            for (int key = 0; key < 3; key++) {
                RidgeClaps x = new RidgeClaps();
                Due.text(x, laws[told]);
                edges.is("key " + key + " with " + laws[told] + " alone", x.why(key), key == told ? 0 : NONE);
            }
        }
        RidgeClaps fault = new RidgeClaps();
        Due.text(fault, "risk h)");
        edges.is("a text with a fault counts not", fault.why(0), NONE);
        RidgeClaps none = new RidgeClaps();
        none.keep();
        Due.text(none, "risk 1");
        none.back();
        edges.is("none behind an image without texts", none.why(0), NONE);
    }
}
