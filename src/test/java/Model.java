import java.util.ArrayList;
import java.util.HashMap;
import java.util.List;
import java.util.Map;

/**
 * The document once more, written as plainly as may be and by other means than the class
 * (every row of STEPS tried, texts worked out by their loosest sign), to hold the two against each other.
 */
final class Model {
    static final int BAD = -1000000001, NO = -1000000002, FULL = -1000000003, NONE = -1000000005;
    static final int NOTHING = -1000000011, KIND = -1000000012, INDEX = -1000000013, SIZE = -1000000014;

    static final class Spot {
        int kind, height, down;

        Spot(int kind, int height, int down) {
            this.kind = kind;
            this.height = height;
            this.down = down;
        }

        Spot twin() {
            return new Spot(kind, height, down);
        }

        boolean isA(int other) {
            List<Integer> line = List.of(List.of(0), List.of(1, 0), List.of(2, 0), List.of(3, 1, 0), List.of(4, 2, 0), List.of(5, 0)).get(kind);
            return line.contains(other);
        }

        int worth() {
            return worthAs(kind);
        }

        private int worthAs(int k) {
            if (k == 0) return height;
            if (k == 1) return worthAs(0) + 7;
            if (k == 3) return 2 * worthAs(1);
            if (k == 2) return 100 - height;
            if (k == 4) return worthAs(2) - 20;
            return worthAs(0) / 2;
        }
    }

    static final class Law {
        int key;
        List<String> words;
        int leaves;
    }

    static final class World {
        List<Spot> spots = new ArrayList<>();
        List<Law> laws = new ArrayList<>();
        int far = 60, pace = 2, party = NONE, minute = 0, met = 0, struck = 0, z = 1;

        World twin() {
            World w = new World();
            for (Spot s : spots) w.spots.add(s.twin());
            w.laws.addAll(laws);
            w.far = far;
            w.pace = pace;
            w.party = party;
            w.minute = minute;
            w.met = met;
            w.struck = struck;
            w.z = z;
            return w;
        }

        int draw() {
            z = (int) ((long) z * 1103515245L + 12345L);
            return (int) ((z & 0xffffffffL) / 256);
        }

        boolean has(int p) {
            return p >= 0 && p < spots.size();
        }

        Law law(int key) {
            Law found = null;
            for (Law l : laws) if (l.key == key) found = l;
            return found;
        }

        int farOn(int t) {
            return hold(far - pace * t, 0, 99);
        }

        int oddsOn(int t) {
            int d = farOn(t);
            Law l = law(1);
            return l == null ? Math.max(0, 100 - 3 * d) : hold(value(l, Map.of("d", d, "m", t)), 0, 100);
        }

        int risk(int p) {
            return riskAs(p, spots.get(p).kind);
        }

        private int riskAs(int p, int k) {
            if (k == 1) return riskAs(p, 0) + 10;
            if (k == 3) return 2 * riskAs(p, 1);
            if (k == 2) return riskAs(p, 0) / 2;
            if (k == 4) return riskAs(p, 2) + 5;
            if (k == 5) return riskAs(p, 0) + 20;
            Law l = law(0);
            int h = spots.get(p).height;
            return l == null ? h / 10 : hold(value(l, Map.of("h", h, "n", p)), 0, 99);
        }

        int dangerOn(int p, int t) {
            return risk(p) * oddsOn(t);
        }

        Integer goal(int p, int step) {
            int q = step == 0 ? p + 1 : step == 1 ? p - 1 : p;
            if (step == 3) return spots.get(p).down == 1 ? NONE : null;
            return has(q) ? q : NONE;
        }

        int leastFrom(int p, int t, int m, Map<Integer, Integer> known, int[] risks, int[] odds) {
            if (p == NONE || t == m) return 0;
            Integer seen = known.get(100 * t + p);
            if (seen != null) return seen;
            int best = Integer.MAX_VALUE;
            for (int step = 0; step < 4; step++) {
                Integer q = goal(p, step);
                if (q != null) best = Math.min(best, leastFrom(q, t + 1, m, known, risks, odds));
            }
            best += risks[p] * odds[t];
            known.put(100 * t + p, best);
            return best;
        }

        /** The least danger, and the first step to it. */
        int[] best(int p, int m) {
            int[] risks = new int[spots.size()];
            for (int i = 0; i < risks.length; i++) risks[i] = risk(i);
            int[] odds = new int[m];
            for (int t = 0; t < m; t++) odds[t] = oddsOn(t);
            Map<Integer, Integer> known = new HashMap<>();
            int least = leastFrom(p, 0, m, known, risks, odds);
            for (int step = 0; step < 4; step++) {
                Integer q = goal(p, step);
                if (q != null && risks[p] * odds[0] + leastFrom(q, 1, m, known, risks, odds) == least) {
                    return new int[] {least, step};
                }
            }
            throw new IllegalStateException();
        }

        int byRule(int p, int m) {
            int sum = 0;
            for (int t = 0; t < m && p != NONE; t++) {
                sum += dangerOn(p, t);
                Law l = law(2);
                boolean turn = l == null ? farOn(t) < 20 : value(l, Map.of("f", farOn(t), "n", p, "m", t)) != 0;
                p = goal(p, turn ? 1 : 0);
            }
            return sum;
        }

        int pass(int step) {
            int faced = 0;
            if (party != NONE) {
                faced = dangerOn(party, 0);
                met += faced;
                if (draw() % 10000 < faced) struck++;
                party = goal(party, step);
            }
            far = farOn(1);
            minute++;
            return faced;
        }

        void passBest() {
            pass(party == NONE ? 2 : best(party, 20)[1]);
        }
    }

    World w = new World();
    World image = null;
    StringBuilder tape = new StringBuilder();
    List<Integer> waiting = new ArrayList<>();
    /** short[] or Float[] (null: NO NUMBER); null: MISSING. */
    Object[] sheets = new Object[4];
    /** null, Spot, short[], Float[] or Integer. */
    Object[] slots = new Object[5];

    static int hold(int v, int a, int b) {
        return v < a ? a : v > b ? b : v;
    }

    // ---- the calls, by name

    int call(String name, int... a) {
        switch (name) {
            case "place": return place(a[0], a[1]);
            case "told": return told(a[0], a[1]);
            case "as": return !w.has(a[0]) || a[1] < 0 || a[1] > 5 ? BAD : w.spots.get(a[0]).isA(a[1]) ? w.spots.get(a[0]).height : KIND;
            case "turns": return turns(a[0], a[1]);
            case "set": return set(a[0], a[1], a[2]);
            case "deal": return deal(a[0]);
            case "seed": { int was = w.z; w.z = a[0]; return was; }
            case "storm": return storm(a[0], a[1]);
            case "sky": return a[0] < 0 || a[0] > 60 || a[1] < 0 || a[1] > 1 ? BAD : a[1] == 0 ? w.farOn(a[0]) : w.oddsOn(a[0]);
            case "danger": return !w.has(a[0]) || a[1] < 0 || a[1] > 60 ? BAD : w.dangerOn(a[0], a[1]);
            case "come": return come(a[0]);
            case "step": return step(a[0]);
            case "run": return run(a[0]);
            case "tree": return badWay(a) ? BAD : w.best(a[0], a[1])[a[2]];
            case "rule": return badWay(a) ? BAD : w.byRule(a[0], a[1]) - (a[2] == 1 ? w.best(a[0], a[1])[0] : 0);
            case "hide": return hide(a[0], a[1]);
            case "safest": return safest(a[0]);
            case "claps": return a[1] < 0 || a[1] > 3 ? BAD : claps(a[0], a[1]);
            case "hear": return hear(a[0]);
            case "feed": return feed(a[0], a[1], a[2]);
            case "trim": return trim(a[0]);
            case "text": return text();
            case "textTold": return a[0] < 0 || a[0] >= w.laws.size() || a[1] < 0 || a[1] > 1 ? BAD : a[1] == 0 ? w.laws.get(a[0]).key : w.laws.get(a[0]).leaves;
            case "why": return a[0] < 0 || a[0] > 2 ? BAD : w.law(a[0]) == null ? NONE : w.laws.lastIndexOf(w.law(a[0]));
            case "sheet": return sheet(a[0], a[1], a[2]);
            case "mark": return mark(a[0], a[1], a[2]);
            case "pour": return pour(a[0]);
            case "reads": return reads(a[0]);
            case "copy": return copy(a[0], a[1], a[2], a[3], a[4]);
            case "lay": return lay(a[0], a[1], a[2]);
            case "ask": return ask(a[0], a[1]);
            case "item": return item(a[0], a[1]);
            case "rest": return rest(a[0], a[1]);
            case "tell": return tell(a[0]);
            case "check": return check(a[0]);
            case "keep": image = w.twin(); return w.spots.size();
            case "back": if (image == null) return NO; w = image.twin(); return w.spots.size();
            case "count": return count(a[0]);
            default: throw new IllegalArgumentException(name);
        }
    }

    private int place(int kind, int height) {
        if (kind < 0 || kind > 5 || height < 0 || height > 99) return BAD;
        if (w.spots.size() == 24) return FULL;
        w.spots.add(new Spot(kind, height, 0));
        return w.spots.size() - 1;
    }

    private int told(int p, int what) {
        if (!w.has(p) || what < 0 || what > 4) return BAD;
        Spot s = w.spots.get(p);
        return new int[] {s.kind, s.height, s.down, w.risk(p), s.worth()}[what];
    }

    private int turns(int p, int kind) {
        if (!w.has(p) || kind < 0 || kind > 5) return BAD;
        int was = w.spots.get(p).kind;
        w.spots.get(p).kind = kind;
        return was;
    }

    private int set(int p, int what, int v) {
        if (!w.has(p) || what < 1 || what > 2 || v < 0 || v > (what == 1 ? 99 : 1)) return BAD;
        Spot s = w.spots.get(p);
        int was = what == 1 ? s.height : s.down;
        if (what == 1) s.height = v; else s.down = v;
        return was;
    }

    private int deal(int n) {
        if (n < 1 || n > 24) return BAD;
        int came = 0;
        while (came < n && w.spots.size() < 24) {
            w.spots.add(new Spot(w.draw() % 5, w.draw() % 100, w.draw() % 4 == 0 ? 1 : 0));
            came++;
        }
        return came;
    }

    private int storm(int what, int v) {
        if (what == 0 && v >= 0 && v <= 99) {
            int was = w.far;
            w.far = v;
            return was;
        }
        if (what == 1 && v >= -9 && v <= 9) {
            int was = w.pace;
            w.pace = v;
            return was;
        }
        return BAD;
    }

    private int come(int p) {
        if (p != NONE && !w.has(p)) return BAD;
        int was = w.party;
        w.party = p;
        return was;
    }

    private int step(int s) {
        if (s < 0 || s > 3) return BAD;
        if (w.party == NONE ? s != 2 : w.goal(w.party, s) == null) return NO;
        return w.minute == 9999 ? FULL : w.pass(s);
    }

    private int run(int n) {
        if (n < 1 || n > 60) return BAD;
        int many = Math.min(n, 9999 - w.minute);
        for (int i = 0; i < many; i++) w.passBest();
        return many;
    }

    private boolean badWay(int[] a) {
        return !w.has(a[0]) || a[1] < 1 || a[1] > 60 || a[2] < 0 || a[2] > 1;
    }

    private int hide(int p, int m) {
        if (!w.has(p) || m < 0 || m > 60) return BAD;
        int best = NONE;
        for (int q = w.spots.size() - 1; q >= 0; q--) {
            if (Math.abs(p - q) <= m && (best == NONE || w.risk(q) <= w.risk(best))) best = q;
        }
        return best;
    }

    private int safest(int m) {
        if (m < 1 || m > 60) return BAD;
        int best = NONE;
        int least = Integer.MAX_VALUE;
        for (int q = 0; q < w.spots.size(); q++) {
            int v = w.best(q, m)[0];
            if (v < least) {
                least = v;
                best = q;
            }
        }
        return best;
    }

    // ---- claps: rows of {place, number}

    private List<int[]> numbers(Object sheet) {
        List<int[]> row = new ArrayList<>();
        for (int i = 0; i < size(sheet); i++) {
            Integer v = number(sheet, i);
            if (v != null) row.add(new int[] {i, v});
        }
        return row;
    }

    private static int size(Object sheet) {
        return sheet instanceof short[] s ? s.length : ((Float[]) sheet).length;
    }

    private static Integer number(Object sheet, int i) {
        if (sheet instanceof short[] s) return (int) s[i];
        Float f = ((Float[]) sheet)[i];
        return f == null ? null : Integer.valueOf(f.intValue());
    }

    private int claps(int n, int what) {
        if (n < 0 || n > 3) return BAD;
        if (sheets[n] == null) return NOTHING;
        List<int[]> row = numbers(sheets[n]);
        if (row.isEmpty()) return NONE;
        if (what == 0) return row.get(row.size() - 1)[1] / 3;
        if (what == 1) {
            int less = 0, more = 0;
            for (int i = 1; i < row.size(); i++) {
                if (row.get(i)[1] < row.get(i - 1)[1]) less++;
                if (row.get(i)[1] > row.get(i - 1)[1]) more++;
            }
            return less - more;
        }
        int bestPace = 0;
        long least = Long.MAX_VALUE;
        for (int pace = 9; pace >= -9; pace--) {
            long sum = 0;
            for (int[] c : row) {
                int f = row.get(0)[1] / 3;
                sum += Math.abs(c[1] - 3 * hold(f - pace * (c[0] - row.get(0)[0]), 0, 99));
            }
            if (sum <= least) {
                least = sum;
                bestPace = pace;
            }
        }
        return what == 2 ? bestPace : (int) least;
    }

    private int hear(int n) {
        int far = claps(n, 0);
        if (far == BAD || far == NOTHING || far == NONE) return far;
        int pace = claps(n, 2);
        w.far = hold(far, 0, 99);
        w.pace = pace;
        return w.far;
    }

    // ---- texts

    private int feed(int a, int b, int c) {
        if (tape.length() > 84) return FULL;
        for (int v : new int[] {a, b, c}) {
            for (int i = 3; i >= 0; i--) tape.append((char) (v >> 8 * i & 255));
        }
        return tape.length();
    }

    private int trim(int n) {
        if (n < 0 || n > tape.length()) return BAD;
        tape.setLength(n);
        return n;
    }

    private int text() {
        String s = tape.toString();
        tape.setLength(0);
        Law law = new Law();
        law.words = new ArrayList<>();
        int fault = fault(s, law);
        if (fault >= 0) return -100 - fault;
        if (w.laws.size() == 14) return FULL;
        w.laws.add(law);
        return w.laws.size() - 1;
    }

    /** Goes through words and signs with a stack of what is open; -1: no fault. */
    private static int fault(String s, Law law) {
        StringBuilder open = new StringBuilder();
        List<Boolean> tested = new ArrayList<>();
        tested.add(false);
        String names = "";
        boolean piece = true;
        int at = 0;
        boolean first = true;
        while (true) {
            boolean blank = at == 0;
            while (at < s.length() && s.charAt(at) == ' ') {
                at++;
                blank = true;
            }
            if (at == s.length()) break;
            int to = at + 1;
            String sort = s.charAt(at) >= 'a' && s.charAt(at) <= 'z' ? "[a-z]+" : s.charAt(at) >= '0' && s.charAt(at) <= '9' ? "[0-9]+" : "";
            while (!sort.isEmpty() && to < s.length() && s.substring(at, to + 1).matches(sort)) to++;
            String word = s.substring(at, to);
            boolean behindWord = !blank && s.substring(at - 1, at).matches("[a-z0-9]");
            if (!sort.isEmpty() && behindWord) return at;
            if (first) {
                law.key = List.of("risk", "odds", "turn").indexOf(word);
                if (law.key < 0) return at;
                names = List.of("hn", "dm", "fnm").get(law.key);
                first = false;
            } else {
                law.words.add(word);
                if (piece) {
                    if (word.equals("(") || word.equals("!")) {
                        if (open.chars().filter(c -> c == word.charAt(0)).count() == 8) return at;
                        open.append(word);
                        if (word.equals("(")) tested.add(false);
                    } else if (word.matches("[0-9]{1,4}") || word.length() == 1 && names.contains(word)) {
                        law.leaves++;
                        piece = false;
                        endNots(open);
                    } else {
                        return at;
                    }
                } else if (word.equals(")") && open.length() > 0) {
                    open.setLength(open.length() - 1);
                    tested.remove(tested.size() - 1);
                    endNots(open);
                } else if (word.length() == 1 && "<=>".contains(word)) {
                    if (tested.get(tested.size() - 1)) return at;
                    tested.set(tested.size() - 1, true);
                    piece = true;
                } else if (word.length() == 1 && "|&+-*/".contains(word)) {
                    if ("|&".contains(word)) tested.set(tested.size() - 1, false);
                    piece = true;
                } else {
                    return at;
                }
            }
            at = to;
        }
        return first || piece || open.length() > 0 ? s.length() : -1;
    }

    private static void endNots(StringBuilder open) {
        while (open.length() > 0 && open.charAt(open.length() - 1) == '!') open.setLength(open.length() - 1);
    }

    private static int value(Law law, Map<String, Integer> names) {
        return value(law.words, names);
    }

    /** Splits at the last of the loosest signs outside brackets. */
    private static int value(List<String> e, Map<String, Integer> names) {
        for (String signs : List.of("|", "&", "<=>", "+-", "*/")) {
            int depth = 0;
            for (int i = e.size() - 1; i > 0; i--) {
                String s = e.get(i);
                if (s.equals(")")) depth++;
                if (s.equals("(")) depth--;
                if (depth == 0 && s.length() == 1 && signs.contains(s)) {
                    return two(s.charAt(0), value(e.subList(0, i), names), value(e.subList(i + 1, e.size()), names));
                }
            }
        }
        if (e.get(0).equals("!")) return value(e.subList(1, e.size()), names) == 0 ? 1 : 0;
        if (e.get(0).equals("(")) return value(e.subList(1, e.size() - 1), names);
        return names.containsKey(e.get(0)) ? names.get(e.get(0)) : Integer.parseInt(e.get(0));
    }

    private static int two(char sign, int a, int b) {
        if (sign == '|') return (a == 0 ? 0 : 1) + (b == 0 ? 0 : 1) > 0 ? 1 : 0;
        if (sign == '&') return (a == 0 ? 0 : 1) * (b == 0 ? 0 : 1);
        if (sign == '<') return Integer.signum(Integer.compare(b, a)) == 1 ? 1 : 0;
        if (sign == '>') return Integer.signum(Integer.compare(a, b)) == 1 ? 1 : 0;
        if (sign == '=') return a == b ? 1 : 0;
        if (sign == '+') return (int) ((long) a + b);
        if (sign == '-') return (int) ((long) a - b);
        if (sign == '*') return (int) ((long) a * b);
        return b == 0 ? 0 : (int) ((long) a / b);
    }

    // ---- sheets, slots

    private int sheet(int n, int sort, int many) {
        if (n < 0 || n > 3 || sort < -1 || sort > 1) return BAD;
        if (sort == -1) {
            sheets[n] = null;
            return 0;
        }
        if (many > 24) return BAD;
        if (many < 0) return SIZE;
        if (sort == 0) {
            sheets[n] = new short[many];
        } else {
            Float[] row = new Float[many];
            java.util.Arrays.fill(row, 0f);
            sheets[n] = row;
        }
        return many;
    }

    private int mark(int n, int p, int v) {
        if (n < 0 || n > 3) return BAD;
        if (sheets[n] == null) return NOTHING;
        if (p < 0 || p >= size(sheets[n])) return INDEX;
        if (sheets[n] instanceof short[] s) {
            if (v == NONE) return KIND;
            s[p] = (short) v;
            return 1;
        }
        if (v != NONE && Math.abs((long) v) > 99999) return BAD;
        ((Float[]) sheets[n])[p] = v == NONE ? null : Float.valueOf(v);
        return 1;
    }

    private int pour(int n) {
        if (n < 0 || n > 3) return BAD;
        if (sheets[n] == null) return NOTHING;
        int other = 0;
        for (int[] c : numbers(sheets[n])) {
            if (w.has(c[0])) {
                Spot s = w.spots.get(c[0]);
                int h = hold(c[1], 0, 99);
                if (h != s.height) other++;
                s.height = h;
            }
        }
        return other;
    }

    private int reads(int n) {
        if (n < 0 || n > 3) return BAD;
        if (sheets[n] == null) return NOTHING;
        for (int[] c : numbers(sheets[n])) {
            if (!w.has(c[0]) || w.risk(c[0]) != c[1]) return c[0];
        }
        return NONE;
    }

    private int copy(int from, int p, int to, int at, int many) {
        if (from < 0 || from > 3 || to < 0 || to > 3) return BAD;
        if (sheets[from] == null || sheets[to] == null) return NOTHING;
        if (sheets[from].getClass() != sheets[to].getClass()) return KIND;
        try {
            System.arraycopy(sheets[from], p, sheets[to], at, many);
        } catch (IndexOutOfBoundsException e) {
            return INDEX;
        }
        return many;
    }

    private int lay(int slot, int thing, int k) {
        if (slot < 0 || slot > 4 || thing < 0 || thing > 3) return BAD;
        if (thing == 1 && !w.has(k) || thing == 2 && (k < 0 || k > 3)) return BAD;
        if (thing == 2 && sheets[k] == null) return NOTHING;
        int was = thing(slots[slot]);
        if (thing == 0) slots[slot] = null;
        if (thing == 1) slots[slot] = w.spots.get(k).twin();
        if (thing == 2) slots[slot] = sheets[k] instanceof short[] s ? s.clone() : ((Float[]) sheets[k]).clone();
        if (thing == 3) slots[slot] = k;
        return was;
    }

    private static int thing(Object held) {
        return held == null ? 0 : held instanceof Spot ? 1 : held instanceof Integer ? 3 : 2;
    }

    private int ask(int slot, int kind) {
        if (slot < 0 || slot > 4 || kind < 0 || kind > 5) return BAD;
        if (slots[slot] == null) return NOTHING;
        return slots[slot] instanceof Spot s && s.isA(kind) ? s.worth() : KIND;
    }

    private int item(int slot, int p) {
        if (slot < 0 || slot > 4) return BAD;
        if (slots[slot] == null) return NOTHING;
        if (thing(slots[slot]) != 2) return KIND;
        if (p < 0 || p >= size(slots[slot])) return INDEX;
        Integer v = number(slots[slot], p);
        return v == null ? KIND : v;
    }

    private int rest(int slot, int n) {
        if (slot < 0 || slot > 4) return BAD;
        if (slots[slot] == null) return NOTHING;
        if (!(slots[slot] instanceof Integer k)) return KIND;
        return n == 0 ? NO : (int) ((long) k % n);
    }

    // ---- rows, images

    private int tell(int v) {
        if (waiting.size() == 60) return FULL;
        waiting.add(v);
        return waiting.size();
    }

    List<Integer> minutesTold(int n) {
        World t = image.twin();
        List<Integer> row = new ArrayList<>();
        for (int i = 0; i < n && t.minute < 9999; i++) {
            t.passBest();
            row.add(t.met);
            row.add(t.struck);
        }
        return row;
    }

    private int check(int n) {
        List<Integer> said = waiting;
        waiting = new ArrayList<>();
        if (n < 1 || n > 30) return BAD;
        if (image == null) return NO;
        List<Integer> row = minutesTold(n);
        if (said.equals(row)) return 0;
        int same = 0;
        while (same < said.size() && same < row.size() && said.get(same).equals(row.get(same))) same++;
        return 1 + same;
    }

    private int count(int what) {
        int[] row = {w.spots.size(), w.party, w.minute, w.far, w.pace, w.met, w.struck, w.laws.size(), waiting.size(), tape.length(), w.z};
        return what < 0 || what > 10 ? BAD : row[what];
    }
}
