/** Counts answers that are not as due, and lays texts on a tape. */
final class Due {
    private final String name;
    private int asked = 0;
    private int wrong = 0;

    Due(String name) {
        this.name = name;
    }

    void is(String call, long got, long want) {
        asked++;
        if (got != want) {
            wrong++;
            if (wrong <= 50) {
                System.out.println(name + ": " + call + " answered " + got + ", due is " + want);
            }
        }
    }

    void holds(String what, boolean so) {
        is(what, so ? 1 : 0, 1);
    }

    boolean anyWrong() {
        return wrong > 0;
    }

    void end() {
        System.out.println(name + ": " + asked + " answers, " + wrong + " not as due");
        if (wrong > 0) {
            System.exit(1);
        }
    }

    /** Lays signs on an empty tape, byte by byte. */
    static void lay(RidgeClaps x, String signs) {
        for (int i = 0; i < signs.length(); i += 12) {
            x.feed(four(signs, i), four(signs, i + 4), four(signs, i + 8));
        }
        x.trim(signs.length());
    }

    static int text(RidgeClaps x, String signs) {
        lay(x, signs);
        return x.text();
    }

    private static int four(String signs, int at) {
        int v = 0;
        for (int i = at; i < at + 4; i++) {
            v = v << 8 | (i < signs.length() ? signs.charAt(i) & 255 : 32);
        }
        return v;
    }
}
