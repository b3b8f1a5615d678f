import java.util.Random;

/** Texts by lot: most as the document has them, some with a fault. */
final class Texts {
    private Texts() {
    }

    static String some(Random lot) {
        String key = new String[] {"risk", "odds", "turn"}[lot.nextInt(3)];
        String names = key.equals("risk") ? "hn" : key.equals("odds") ? "dm" : "fnm";
        String s = key + (lot.nextInt(20) == 0 ? "" : " ") + level(lot, names, 0, 5 + lot.nextInt(12));
        if (lot.nextInt(12) == 0) {
            s = key + " " + deep(lot, names);
        }
        if (lot.nextInt(5) == 0) {
            s = spoilt(lot, s);
        }
        return s.length() > 96 ? s.substring(0, 96) : s;
    }

    private static String level(Random lot, String names, int level, int room) {
        if (level == 5) {
            return piece(lot, names, room);
        }
        StringBuilder b = new StringBuilder(level(lot, names, level + 1, room));
        String signs = new String[] {"|", "&", "<=>", "+-", "*/"}[level];
        int more = lot.nextInt(3) == 0 ? 1 + lot.nextInt(level == 2 ? 1 : 2) : 0;
        for (int i = 0; i < more; i++) {
            b.append(blank(lot)).append(signs.charAt(lot.nextInt(signs.length()))).append(blank(lot));
            b.append(level(lot, names, level + 1, room - 4));
        }
        return b.toString();
    }

    private static String piece(Random lot, String names, int room) {
        switch (room < 6 ? lot.nextInt(2) : lot.nextInt(5)) {
            case 0: return "" + lot.nextInt(new int[] {10, 100, 10000}[lot.nextInt(3)]);
            case 2: return "!" + piece(lot, names, room - 2);
            case 3: return "(" + level(lot, names, 0, room - 6) + blank(lot) + ")";
            default: return "" + names.charAt(lot.nextInt(names.length()));
        }
    }

    /** Brackets and nots about as deep as may be. */
    private static String deep(Random lot, String names) {
        StringBuilder b = new StringBuilder();
        int open = 0;
        int steps = 6 + lot.nextInt(13);
        for (int i = 0; i < steps; i++) {
            if (lot.nextBoolean()) {
                b.append('!');
            } else {
                b.append('(');
                open++;
                if (lot.nextInt(4) == 0) {
                    b.append("1+");
                }
            }
        }
        b.append(names.charAt(0));
        for (int i = 0; i < open; i++) {
            b.append(lot.nextInt(6) == 0 ? "+!2)" : ")");
        }
        return b.toString();
    }

    private static String blank(Random lot) {
        return lot.nextInt(6) == 0 ? " " : "";
    }

    private static String spoilt(Random lot, String s) {
        String any = "hndmf0123456789()!|&<=>+-*/ %Zrisk\t\0";
        StringBuilder b = new StringBuilder(s);
        int at = lot.nextInt(b.length());
        switch (lot.nextInt(4)) {
            case 0: b.setCharAt(at, any.charAt(lot.nextInt(any.length()))); break;
            case 1: b.insert(at, any.charAt(lot.nextInt(any.length()))); break;
            case 2: b.deleteCharAt(at); break;
            default: b.setLength(at); break;
        }
        return b.toString();
    }
}
