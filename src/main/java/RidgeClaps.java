import java.util.Arrays;

/**
 * Thunder on a ridge: places, a storm, a party, what is best for it, claps, laws in texts.
 * The words in capitals, and what each call answers, are those of the document (DOC.md).
 */
public final class RidgeClaps {
    public static final int BAD = -1000000001, NO = -1000000002, FULL = -1000000003, NONE = -1000000005, NOTHING = -1000000011, KIND = -1000000012, INDEX = -1000000013, SIZE = -1000000014;

    private static final int MOST_PLACES = 24;
    private static final int MOST_TEXTS = 14;
    private static final int MOST_BYTES = 96;
    private static final int MOST_WAITING = 60;
    private static final int MOST_SHEETS = 4;
    private static final int MOST_SLOTS = 5;
    private static final int MOST_AHEAD = 60;
    private static final int MOST_CHECKED = 30;
    private static final int MOST_FLOAT = 99999;
    private static final int MOST_PACE = 9;
    private static final int LAST_MINUTE = 9999;
    private static final int RUN_AHEAD = 20;
    private static final int BYTES_FED = 12;

    private static final int PLACE = 0;
    private static final int CREST = 1;
    private static final int HOLLOW = 2;
    private static final int SPIRE = 3;
    private static final int LIPPED = 4;
    private static final int IRONED = 5;
    private static final int[] KIND_ABOVE = {NONE, PLACE, PLACE, CREST, HOLLOW, PLACE};

    private static final int ON = 0;
    private static final int BACK = 1;
    private static final int STAY = 2;
    private static final int OFF = 3;

    private static final int KEY_RISK = 0;
    private static final int KEY_ODDS = 1;
    private static final int KEY_TURN = 2;
    private static final int KEYS = 3;

    private static final int MISSING = -1;
    private static final int SHORTS = 0;
    private static final int FLOATS = 1;

    private static final int HOLDS_NOTHING = 0;
    private static final int HOLDS_PLACE = 1;
    private static final int HOLDS_SHEET = 2;
    private static final int HOLDS_NUMBER = 3;

    private final Ridge ridge = new Ridge();
    private final Ridge image = new Ridge();
    private final Ridge trial = new Ridge();
    private final Ways ways = new Ways();
    private final Reader reader = new Reader();
    private final Row[] sheets = new Row[MOST_SHEETS];
    private final Slot[] slots = new Slot[MOST_SLOTS];
    private final int[] waiting = new int[MOST_WAITING];
    private int waits = 0;
    private boolean kept = false;

    public RidgeClaps() {
        for (int i = 0; i < MOST_SHEETS; i++) {
            sheets[i] = new Row();
        }
        for (int i = 0; i < MOST_SLOTS; i++) {
            slots[i] = new Slot();
        }
    }

    // ---- places, the storm

    public int place(int kind, int height) {
        if (!isKind(kind) || !within(height, 0, 99)) {
            return BAD;
        }
        if (ridge.size >= MOST_PLACES) {
            return FULL;
        }
        return ridge.append(kind, height, 0);
    }

    public int told(int place, int what) {
        if (!ridge.has(place)) {
            return BAD;
        }
        switch (what) {
            case 0: return ridge.kinds[place];
            case 1: return ridge.heights[place];
            case 2: return ridge.downs[place];
            case 3: return ridge.riskOf(place);
            case 4: return worthOf(ridge.kinds[place], ridge.heights[place]);
            default: return BAD;
        }
    }

    public int as(int place, int kind) {
        if (!ridge.has(place) || !isKind(kind)) {
            return BAD;
        }
        return isOfKind(ridge.kinds[place], kind) ? ridge.heights[place] : KIND;
    }

    public int turns(int place, int kind) {
        if (!ridge.has(place) || !isKind(kind)) {
            return BAD;
        }
        int was = ridge.kinds[place];
        ridge.kinds[place] = kind;
        return was;
    }

    public int set(int place, int what, int v) {
        if (!ridge.has(place)) {
            return BAD;
        }
        if (what == 1 && within(v, 0, 99)) {
            int was = ridge.heights[place];
            ridge.heights[place] = v;
            return was;
        }
        if (what == 2 && within(v, 0, 1)) {
            int was = ridge.downs[place];
            ridge.downs[place] = v;
            return was;
        }
        return BAD;
    }

    public int deal(int n) {
        if (!within(n, 1, MOST_PLACES)) {
            return BAD;
        }
        int came = Math.min(n, MOST_PLACES - ridge.size);
        for (int i = 0; i < came; i++) {
            ridge.appendDrawn();
        }
        return came;
    }

    public int seed(int v) {
        int was = ridge.z;
        ridge.z = v;
        return was;
    }

    public int storm(int what, int v) {
        if (what == 0 && within(v, 0, 99)) {
            int was = ridge.far;
            ridge.far = v;
            return was;
        }
        if (what == 1 && within(v, -MOST_PACE, MOST_PACE)) {
            int was = ridge.pace;
            ridge.pace = v;
            return was;
        }
        return BAD;
    }

    public int sky(int t, int what) {
        if (!within(t, 0, MOST_AHEAD) || !within(what, 0, 1)) {
            return BAD;
        }
        return what == 0 ? ridge.farIn(t) : ridge.oddsIn(t);
    }

    public int danger(int place, int t) {
        if (!ridge.has(place) || !within(t, 0, MOST_AHEAD)) {
            return BAD;
        }
        return ridge.dangerOf(place, t);
    }

    // ---- the party

    public int come(int place) {
        if (place != NONE && !ridge.has(place)) {
            return BAD;
        }
        int was = ridge.party;
        ridge.party = place;
        return was;
    }

    public int step(int step) {
        if (!within(step, ON, OFF)) {
            return BAD;
        }
        if (!ridge.mayStep(ridge.party, step)) {
            return NO;
        }
        if (ridge.minute >= LAST_MINUTE) {
            return FULL;
        }
        return ridge.passMinute(step);
    }

    public int run(int n) {
        if (!within(n, 1, MOST_AHEAD)) {
            return BAD;
        }
        ways.weigh(ridge);
        int passed = 0;
        while (passed < n && ridge.minute < LAST_MINUTE) {
            passBestMinute(ridge);
            passed++;
        }
        return passed;
    }

    // ---- what is best

    public int tree(int place, int m, int what) {
        if (!ridge.has(place) || !within(m, 1, MOST_AHEAD) || !within(what, 0, 1)) {
            return BAD;
        }
        ways.weigh(ridge);
        ways.grow(ridge, m);
        return what == 0 ? ways.least[place] : ways.bestStep(ridge, place);
    }

    public int rule(int place, int m, int what) {
        if (!ridge.has(place) || !within(m, 1, MOST_AHEAD) || !within(what, 0, 1)) {
            return BAD;
        }
        int byRule = ridge.dangerByRule(place, m);
        if (what == 0) {
            return byRule;
        }
        ways.weigh(ridge);
        ways.grow(ridge, m);
        return byRule - ways.least[place];
    }

    public int hide(int place, int m) {
        if (!ridge.has(place) || !within(m, 0, MOST_AHEAD)) {
            return BAD;
        }
        ways.weigh(ridge);
        int first = Math.max(0, place - m);
        int last = Math.min(ridge.size - 1, place + m);
        return firstLeast(ways.risks, first, last);
    }

    public int safest(int m) {
        if (!within(m, 1, MOST_AHEAD)) {
            return BAD;
        }
        if (ridge.size == 0) {
            return NONE;
        }
        ways.weigh(ridge);
        ways.grow(ridge, m);
        return firstLeast(ways.least, 0, ridge.size - 1);
    }

    // ---- claps

    public int claps(int sheet, int what) {
        if (!isSheet(sheet) || !within(what, 0, 3)) {
            return BAD;
        }
        Row row = sheets[sheet];
        if (row.isMissing()) {
            return NOTHING;
        }
        if (row.firstNumber() == NONE) {
            return NONE;
        }
        switch (what) {
            case 0: return row.howFar();
            case 1: return row.comes();
            case 2: return row.explainingPace();
            default: return row.differences(row.explainingPace());
        }
    }

    public int hear(int sheet) {
        if (!isSheet(sheet)) {
            return BAD;
        }
        Row row = sheets[sheet];
        if (row.isMissing()) {
            return NOTHING;
        }
        if (row.firstNumber() == NONE) {
            return NONE;
        }
        ridge.far = held(row.howFar(), 0, 99);
        ridge.pace = row.explainingPace();
        return ridge.far;
    }

    // ---- texts

    public int feed(int a, int b, int c) {
        if (reader.length + BYTES_FED > MOST_BYTES) {
            return FULL;
        }
        reader.takeBytes(a);
        reader.takeBytes(b);
        reader.takeBytes(c);
        return reader.length;
    }

    public int trim(int n) {
        if (!within(n, 0, reader.length)) {
            return BAD;
        }
        reader.length = n;
        return n;
    }

    public int text() {
        reader.readTape();
        reader.length = 0;
        if (reader.fault != NONE) {
            return -100 - reader.fault;
        }
        if (ridge.textCount >= MOST_TEXTS) {
            return FULL;
        }
        return ridge.appendText(reader.textRead());
    }

    public int textTold(int text, int what) {
        if (!within(text, 0, ridge.textCount - 1) || !within(what, 0, 1)) {
            return BAD;
        }
        Text asked = ridge.texts[text];
        if (asked == null) {
            return BAD;
        }
        return what == 0 ? asked.key : asked.leaves;
    }

    public int why(int key) {
        if (!within(key, 0, KEYS - 1)) {
            return BAD;
        }
        return ridge.lastTold[key];
    }

    // ---- sheets, slots

    public int sheet(int sheet, int sort, int n) {
        if (!isSheet(sheet) || !within(sort, MISSING, FLOATS)) {
            return BAD;
        }
        int places = sort == MISSING ? 0 : n;
        if (places > MOST_PLACES) {
            return BAD;
        }
        if (places < 0) {
            return SIZE;
        }
        sheets[sheet].beginAnew(sort, places);
        return places;
    }

    public int mark(int sheet, int place, int v) {
        if (!isSheet(sheet)) {
            return BAD;
        }
        Row row = sheets[sheet];
        if (row.isMissing()) {
            return NOTHING;
        }
        if (!row.has(place)) {
            return INDEX;
        }
        if (row.sort == SHORTS) {
            if (v == NONE) {
                return KIND;
            }
            row.values[place] = (short) v;
            return 1;
        }
        if (v != NONE && !within(v, -MOST_FLOAT, MOST_FLOAT)) {
            return BAD;
        }
        row.values[place] = v;
        return 1;
    }

    public int pour(int sheet) {
        if (!isSheet(sheet)) {
            return BAD;
        }
        Row row = sheets[sheet];
        if (row.isMissing()) {
            return NOTHING;
        }
        return ridge.takeHeights(row);
    }

    public int reads(int sheet) {
        if (!isSheet(sheet)) {
            return BAD;
        }
        Row row = sheets[sheet];
        if (row.isMissing()) {
            return NOTHING;
        }
        return ridge.firstNotRisk(row);
    }

    public int copy(int from, int place, int to, int at, int many) {
        if (!isSheet(from) || !isSheet(to)) {
            return BAD;
        }
        Row source = sheets[from];
        Row target = sheets[to];
        if (source.isMissing() || target.isMissing()) {
            return NOTHING;
        }
        if (source.sort != target.sort) {
            return KIND;
        }
        if (!source.hasStretch(place, many) || !target.hasStretch(at, many)) {
            return INDEX;
        }
        System.arraycopy(source.values, place, target.values, at, many);
        return many;
    }

    public int lay(int slot, int thing, int k) {
        if (!isSlot(slot) || !within(thing, HOLDS_NOTHING, HOLDS_NUMBER)) {
            return BAD;
        }
        if (thing == HOLDS_PLACE && !ridge.has(k) || thing == HOLDS_SHEET && !isSheet(k)) {
            return BAD;
        }
        if (thing == HOLDS_SHEET && sheets[k].isMissing()) {
            return NOTHING;
        }
        Slot taker = slots[slot];
        int was = taker.thing;
        taker.thing = thing;
        if (thing == HOLDS_PLACE) {
            taker.takePlace(ridge.kinds[k], ridge.heights[k]);
        } else if (thing == HOLDS_SHEET) {
            taker.row.become(sheets[k]);
        } else if (thing == HOLDS_NUMBER) {
            taker.number = k;
        }
        return was;
    }

    public int ask(int slot, int kind) {
        if (!isSlot(slot) || !isKind(kind)) {
            return BAD;
        }
        Slot asked = slots[slot];
        if (asked.thing == HOLDS_NOTHING) {
            return NOTHING;
        }
        if (asked.thing != HOLDS_PLACE || !isOfKind(asked.kind, kind)) {
            return KIND;
        }
        return worthOf(asked.kind, asked.height);
    }

    public int item(int slot, int place) {
        if (!isSlot(slot)) {
            return BAD;
        }
        Slot asked = slots[slot];
        if (asked.thing == HOLDS_NOTHING) {
            return NOTHING;
        }
        if (asked.thing != HOLDS_SHEET) {
            return KIND;
        }
        if (!asked.row.has(place)) {
            return INDEX;
        }
        return asked.row.isNumber(place) ? asked.row.values[place] : KIND;
    }

    public int rest(int slot, int n) {
        if (!isSlot(slot)) {
            return BAD;
        }
        Slot asked = slots[slot];
        if (asked.thing == HOLDS_NOTHING) {
            return NOTHING;
        }
        if (asked.thing != HOLDS_NUMBER) {
            return KIND;
        }
        if (n == 0) {
            return NO;
        }
        return asked.number % n;
    }

    // ---- rows, images

    public int tell(int v) {
        if (waits >= MOST_WAITING) {
            return FULL;
        }
        waiting[waits] = v;
        waits++;
        return waits;
    }

    public int check(int n) {
        int numbers = waits;
        waits = 0;
        if (!within(n, 1, MOST_CHECKED)) {
            return BAD;
        }
        if (!kept) {
            return NO;
        }
        trial.become(image);
        ways.weigh(trial);
        int right = 0;
        for (int i = 0; i < n && trial.minute < LAST_MINUTE; i++) {
            passBestMinute(trial);
            if (!isWaiting(right, numbers, trial.met)) {
                return 1 + right;
            }
            right++;
            if (!isWaiting(right, numbers, trial.struck)) {
                return 1 + right;
            }
            right++;
        }
        return right == numbers ? 0 : 1 + right;
    }

    public int keep() {
        image.become(ridge);
        kept = true;
        return image.size;
    }

    public int back() {
        if (!kept) {
            return NO;
        }
        ridge.become(image);
        return ridge.size;
    }

    public int count(int what) {
        switch (what) {
            case 0: return ridge.size;
            case 1: return ridge.party;
            case 2: return ridge.minute;
            case 3: return ridge.far;
            case 4: return ridge.pace;
            case 5: return ridge.met;
            case 6: return ridge.struck;
            case 7: return ridge.textCount;
            case 8: return waits;
            case 9: return reader.length;
            case 10: return ridge.z;
            default: return BAD;
        }
    }

    /** The RISKS must have been weighed: they stay the same from minute to minute. */
    private void passBestMinute(Ridge gone) {
        int step = STAY;
        if (gone.has(gone.party)) {
            ways.grow(gone, RUN_AHEAD);
            step = ways.bestStep(gone, gone.party);
        }
        gone.passMinute(step);
    }

    /** numbers: how many waited when the call came. */
    private boolean isWaiting(int at, int numbers, int v) {
        return at < numbers && at < MOST_WAITING && waiting[at] == v;
    }

    private static boolean within(int v, int least, int most) {
        return v >= least && v <= most;
    }

    private static int held(int v, int least, int most) {
        return Math.max(least, Math.min(most, v));
    }

    private static boolean isKind(int kind) {
        return kind >= 0 && kind < KIND_ABOVE.length;
    }

    private static boolean isSheet(int sheet) {
        return sheet >= 0 && sheet < MOST_SHEETS;
    }

    private static boolean isSlot(int slot) {
        return slot >= 0 && slot < MOST_SLOTS;
    }

    /** True if own is that KIND or one under it. */
    private static boolean isOfKind(int own, int kind) {
        int climbed = own;
        for (int i = 0; i < KIND_ABOVE.length && isKind(climbed); i++) {
            if (climbed == kind) {
                return true;
            }
            climbed = KIND_ABOVE[climbed];
        }
        return false;
    }

    private static int worthOf(int kind, int height) {
        switch (kind) {
            case CREST: return height + 7;
            case SPIRE: return 2 * (height + 7);
            case HOLLOW: return 100 - height;
            case LIPPED: return 100 - height - 20;
            case IRONED: return height / 2;
            default: return height;
        }
    }

    /** The RISK of a KIND whose RISK as PLACE is plain. */
    private static int riskBy(int kind, int plain) {
        switch (kind) {
            case CREST: return plain + 10;
            case SPIRE: return 2 * (plain + 10);
            case HOLLOW: return plain / 2;
            case LIPPED: return plain / 2 + 5;
            case IRONED: return plain + 20;
            default: return plain;
        }
    }

    /** The least index from first to last with the least value; both must be in the row. */
    private static int firstLeast(int[] row, int first, int last) {
        int best = first;
        for (int i = first + 1; i <= last; i++) {
            if (row[i] < row[best]) {
                best = i;
            }
        }
        return best;
    }

    /** All that AN IMAGE keeps. */
    private static final class Ridge {
        final int[] kinds = new int[MOST_PLACES];
        final int[] heights = new int[MOST_PLACES];
        final int[] downs = new int[MOST_PLACES];
        int size = 0;
        final Text[] texts = new Text[MOST_TEXTS];
        int textCount = 0;
        final int[] lastTold = {NONE, NONE, NONE};
        int far = 60;
        int pace = 2;
        int party = NONE;
        int minute = 0;
        int met = 0;
        int struck = 0;
        int z = 1;
        private final int[] stack = new int[MOST_BYTES];

        boolean has(int place) {
            return place >= 0 && place < size;
        }

        /** The caller has seen that there is room. */
        int append(int kind, int height, int down) {
            int number = size;
            if (number < MOST_PLACES) {
                kinds[number] = kind;
                heights[number] = height;
                downs[number] = down;
                size++;
            }
            return number;
        }

        void appendDrawn() {
            int kind = draw() % 5;
            int height = draw() % 100;
            int down = draw() % 4 == 0 ? 1 : 0;
            append(kind, height, down);
        }

        /** The caller has seen that there is room. */
        int appendText(Text more) {
            int number = textCount;
            if (number < MOST_TEXTS && within(more.key, 0, KEYS - 1)) {
                texts[number] = more;
                lastTold[more.key] = number;
                textCount++;
            }
            return number;
        }

        int draw() {
            z = z * 1103515245 + 12345;
            return z >>> 8;
        }

        int farIn(int t) {
            return held(far - pace * t, 0, 99);
        }

        int oddsIn(int t) {
            int d = farIn(t);
            return held(lawGives(KEY_ODDS, d, t, 0, 100 - 3 * d), 0, 100);
        }

        int riskOf(int place) {
            int height = heights[place];
            int plain = held(lawGives(KEY_RISK, height, place, 0, height / 10), 0, 99);
            return riskBy(kinds[place], plain);
        }

        int dangerOf(int place, int t) {
            return riskOf(place) * oddsIn(t);
        }

        boolean ruleTurns(int place, int t) {
            int then = farIn(t);
            return lawGives(KEY_TURN, then, place, t, then < 20 ? 1 : 0) != 0;
        }

        /** What the TEXT that counts for a KEY gives for its NAMES; without one: otherwise. */
        private int lawGives(int key, int first, int second, int third, int otherwise) {
            int number = lastTold[key];
            if (number < 0 || number >= MOST_TEXTS || texts[number] == null) {
                return otherwise;
            }
            return texts[number].valueFor(first, second, third, stack);
        }

        boolean mayStep(int place, int step) {
            if (!has(place)) {
                return step == STAY;
            }
            return step != OFF || downs[place] == 1;
        }

        /** Where a STEP that may be leads to from a PLACE. */
        int behindStep(int place, int step) {
            switch (step) {
                case ON: return place + 1 < size ? place + 1 : NONE;
                case BACK: return place > 0 ? place - 1 : NONE;
                case STAY: return place;
                default: return NONE;
            }
        }

        /** A MINUTE with a STEP that may be: the DANGER met in it. */
        int passMinute(int step) {
            int faced = 0;
            if (has(party)) {
                faced = riskOf(party) * oddsIn(0);
                met += faced;
                if (draw() % 10000 < faced) {
                    struck++;
                }
                party = behindStep(party, step);
            }
            far = farIn(1);
            minute++;
            return faced;
        }

        int dangerByRule(int place, int m) {
            int together = 0;
            int at = place;
            for (int t = 0; t < m && has(at); t++) {
                together += dangerOf(at, t);
                at = behindStep(at, ruleTurns(at, t) ? BACK : ON);
            }
            return together;
        }

        int takeHeights(Row row) {
            int changed = 0;
            for (int i = 0; i < size && i < row.size; i++) {
                int height = row.isNumber(i) ? held(row.values[i], 0, 99) : heights[i];
                if (height != heights[i]) {
                    heights[i] = height;
                    changed++;
                }
            }
            return changed;
        }

        int firstNotRisk(Row row) {
            for (int i = 0; i < row.size; i++) {
                if (row.isNumber(i) && (!has(i) || row.values[i] != riskOf(i))) {
                    return i;
                }
            }
            return NONE;
        }

        void become(Ridge other) {
            System.arraycopy(other.kinds, 0, kinds, 0, MOST_PLACES);
            System.arraycopy(other.heights, 0, heights, 0, MOST_PLACES);
            System.arraycopy(other.downs, 0, downs, 0, MOST_PLACES);
            System.arraycopy(other.lastTold, 0, lastTold, 0, KEYS);
            for (int i = 0; i < MOST_TEXTS; i++) {
                texts[i] = other.texts[i];
            }
            size = other.size;
            textCount = other.textCount;
            far = other.far;
            pace = other.pace;
            party = other.party;
            minute = other.minute;
            met = other.met;
            struck = other.struck;
            z = other.z;
        }
    }

    /** TREES from all PLACES at once; its rows are used again by every call. */
    private static final class Ways {
        final int[] risks = new int[MOST_PLACES];
        final int[] least = new int[MOST_PLACES];
        private final int[] later = new int[MOST_PLACES];

        void weigh(Ridge ridge) {
            for (int i = 0; i < ridge.size; i++) {
                risks[i] = ridge.riskOf(i);
            }
        }

        /** Fills least with TREE of m minutes from each PLACE, later with what follows its first minute. */
        void grow(Ridge ridge, int m) {
            Arrays.fill(least, 0);
            for (int t = m - 1; t >= 0; t--) {
                System.arraycopy(least, 0, later, 0, MOST_PLACES);
                int odds = ridge.oddsIn(t);
                for (int i = 0; i < ridge.size; i++) {
                    least[i] = risks[i] * odds + leastLater(ridge, i);
                }
            }
        }

        /** Of the STEPS from a PLACE the first with the least behind it, by the last call of grow. */
        int bestStep(Ridge ridge, int place) {
            int best = ON;
            for (int step = BACK; step <= OFF; step++) {
                if (ridge.mayStep(place, step)
                        && laterBehind(ridge, place, step) < laterBehind(ridge, place, best)) {
                    best = step;
                }
            }
            return best;
        }

        /** A way to nowhere is never beaten, since no DANGER is below 0. */
        private int leastLater(Ridge ridge, int place) {
            if (place < 1 || place + 1 >= ridge.size || ridge.downs[place] == 1) {
                return 0;
            }
            return Math.min(later[place], Math.min(later[place - 1], later[place + 1]));
        }

        private int laterBehind(Ridge ridge, int place, int step) {
            int next = ridge.behindStep(place, step);
            return ridge.has(next) ? later[next] : 0;
        }
    }

    /** A SHEET, or nothing but its rows where it is MISSING. NO NUMBER stands as NONE, which no place can hold else. */
    private static final class Row {
        int sort = MISSING;
        int size = 0;
        final int[] values = new int[MOST_PLACES];

        boolean isMissing() {
            return sort == MISSING;
        }

        boolean has(int place) {
            return place >= 0 && place < size;
        }

        /** Written without a sum, which could wrap. */
        boolean hasStretch(int place, int many) {
            return many >= 0 && place >= 0 && place <= size && many <= size - place;
        }

        boolean isNumber(int place) {
            return values[place] != NONE;
        }

        void beginAnew(int newSort, int places) {
            sort = newSort;
            size = places;
            Arrays.fill(values, 0);
        }

        void become(Row other) {
            sort = other.sort;
            size = other.size;
            System.arraycopy(other.values, 0, values, 0, MOST_PLACES);
        }

        int firstNumber() {
            for (int i = 0; i < size; i++) {
                if (isNumber(i)) {
                    return i;
                }
            }
            return NONE;
        }

        int howFar() {
            int last = 0;
            for (int i = 0; i < size; i++) {
                if (isNumber(i)) {
                    last = values[i];
                }
            }
            return last / 3;
        }

        int comes() {
            int first = firstNumber();
            if (first == NONE) {
                return 0;
            }
            int nearer = 0;
            int ahead = values[first];
            for (int i = first + 1; i < size; i++) {
                if (isNumber(i)) {
                    if (values[i] < ahead) {
                        nearer++;
                    } else if (values[i] > ahead) {
                        nearer--;
                    }
                    ahead = values[i];
                }
            }
            return nearer;
        }

        int explainingPace() {
            int best = -MOST_PACE;
            int least = differences(best);
            for (int pace = 1 - MOST_PACE; pace <= MOST_PACE; pace++) {
                int these = differences(pace);
                if (these < least) {
                    least = these;
                    best = pace;
                }
            }
            return best;
        }

        int differences(int pace) {
            int first = firstNumber();
            if (first == NONE) {
                return 0;
            }
            int begin = values[first] / 3;
            int together = 0;
            for (int i = first; i < size; i++) {
                if (isNumber(i)) {
                    together += Math.abs(values[i] - 3 * held(begin - pace * (i - first), 0, 99));
                }
            }
            return together;
        }
    }

    /** A SLOT; its row is there all the time, so that laying a SHEET makes nothing new. */
    private static final class Slot {
        int thing = HOLDS_NOTHING;
        int kind = PLACE;
        int height = 0;
        int number = 0;
        final Row row = new Row();

        void takePlace(int placeKind, int placeHeight) {
            kind = placeKind;
            height = placeHeight;
        }
    }

    /**
     * A TEXT as a row of codes, operands ahead of their sign: 0 .. 9999 a NUMBER,
     * -1 .. -3 a NAME, else a sign with its byte below 0.
     */
    private static final class Text {
        final int key;
        final int leaves;
        private final int[] codes;

        Text(int key, int leaves, int[] codes) {
            this.key = key;
            this.leaves = leaves;
            this.codes = codes;
        }

        /** The stack must have room for as many numbers as THE TAPE has bytes. */
        int valueFor(int first, int second, int third, int[] stack) {
            int top = 0;
            for (int i = 0; i < codes.length; i++) {
                int code = codes[i];
                if (code == -'!') {
                    if (top >= 1) {
                        stack[top - 1] = stack[top - 1] == 0 ? 1 : 0;
                    }
                } else if (code < -3) {
                    if (top >= 2) {
                        top--;
                        stack[top - 1] = worked(-code, stack[top - 1], stack[top]);
                    }
                } else if (top < stack.length) {
                    stack[top] = code >= 0 ? code : named(code, first, second, third);
                    top++;
                }
            }
            return top >= 1 ? stack[0] : 0;
        }

        private static int named(int code, int first, int second, int third) {
            if (code == -1) {
                return first;
            }
            return code == -2 ? second : third;
        }

        private static int worked(int sign, int left, int right) {
            switch (sign) {
                case '|': return left != 0 || right != 0 ? 1 : 0;
                case '&': return left != 0 && right != 0 ? 1 : 0;
                case '<': return left < right ? 1 : 0;
                case '=': return left == right ? 1 : 0;
                case '>': return left > right ? 1 : 0;
                case '+': return left + right;
                case '-': return left - right;
                case '*': return left * right;
                default: return right == 0 ? 0 : left / right;
            }
        }
    }

    /** THE TAPE, and the reading of it; its rows are used again by every call. */
    private static final class Reader {
        private static final int LETTERS = 0;
        private static final int DIGITS = 1;
        private static final int SIGN = 2;
        private static final int END = 3;
        /** A word right behind another one: no TEXT goes on with it. */
        private static final int GLUED = 4;

        private static final int TEST_LEVEL = 2;
        private static final int PIECE_LEVEL = 5;
        private static final int MOST_DIGITS = 4;
        private static final int MOST_OPEN = 8;

        private final int[] bytes = new int[MOST_BYTES];
        int length = 0;
        /** The place of the FAULT of what was read last; NONE: there is none. */
        int fault = NONE;
        private final int[] codes = new int[MOST_BYTES];
        private int codeCount = 0;
        private int key = KEY_RISK;
        private int leaves = 0;
        private int openBrackets = 0;
        private int openNots = 0;
        /** The word or sign that is looked at: from start up to, not with, end. */
        private int start = 0;
        private int end = 0;
        private int sort = END;

        /** The caller has seen that there is room. */
        void takeBytes(int four) {
            for (int shift = 24; shift >= 0 && length < MOST_BYTES; shift -= 8) {
                bytes[length] = four >>> shift & 255;
                length++;
            }
        }

        void readTape() {
            fault = NONE;
            codeCount = 0;
            leaves = 0;
            openBrackets = 0;
            openNots = 0;
            end = 0;
            moveOn();
            readKey();
            if (fault == NONE) {
                readLevel(0);
            }
            if (fault == NONE && sort != END) {
                setFault();
            }
        }

        Text textRead() {
            return new Text(key, leaves, Arrays.copyOf(codes, codeCount));
        }

        private void readKey() {
            if (isWord("risk")) {
                key = KEY_RISK;
            } else if (isWord("odds")) {
                key = KEY_ODDS;
            } else if (isWord("turn")) {
                key = KEY_TURN;
            } else {
                setFault();
                return;
            }
            moveOn();
        }

        /** Levels are the signs' tightness, 0 the loosest; only a bracket, kept to MOST_OPEN, begins again at 0. */
        private void readLevel(int level) {
            if (level >= PIECE_LEVEL) {
                readPiece();
                return;
            }
            readLevel(level + 1);
            int most = level == TEST_LEVEL ? 1 : MOST_BYTES;
            for (int i = 0; i < most && fault == NONE && levelOf(signHere()) == level; i++) {
                int sign = signHere();
                moveOn();
                readLevel(level + 1);
                putCode(-sign);
            }
        }

        private void readPiece() {
            if (sort == DIGITS || sort == LETTERS) {
                readLeaf();
            } else if (signHere() == '!') {
                readNot();
            } else if (signHere() == '(') {
                readBracket();
            } else {
                setFault();
            }
        }

        private void readLeaf() {
            int code = sort == DIGITS ? numberHere() : nameHere();
            if (code == NONE) {
                setFault();
                return;
            }
            leaves++;
            putCode(code);
            moveOn();
        }

        /** NONE: it has too many digits. */
        private int numberHere() {
            if (end - start > MOST_DIGITS) {
                return NONE;
            }
            int number = 0;
            for (int i = start; i < end; i++) {
                number = number * 10 + bytes[i] - '0';
            }
            return number;
        }

        /** NONE: it is no NAME of this KEY. */
        private int nameHere() {
            int index = end - start == 1 ? namesOf(key).indexOf((char) bytes[start]) : -1;
            return index < 0 ? NONE : -1 - index;
        }

        private void readNot() {
            if (openNots >= MOST_OPEN) {
                setFault();
                return;
            }
            openNots++;
            moveOn();
            readPiece();
            putCode(-'!');
            openNots--;
        }

        private void readBracket() {
            if (openBrackets >= MOST_OPEN) {
                setFault();
                return;
            }
            openBrackets++;
            moveOn();
            readLevel(0);
            if (fault != NONE) {
                return;
            }
            if (signHere() != ')') {
                setFault();
                return;
            }
            openBrackets--;
            moveOn();
        }

        private void putCode(int code) {
            if (codeCount < MOST_BYTES) {
                codes[codeCount] = code;
                codeCount++;
            }
        }

        /** Only the first one counts: reading ends with it. */
        private void setFault() {
            if (fault == NONE) {
                fault = start;
            }
        }

        private void moveOn() {
            start = end;
            while (start < length && bytes[start] == ' ') {
                start++;
            }
            end = start;
            if (start >= length) {
                sort = END;
                return;
            }
            end++;
            sort = sortOf(bytes[start]);
            if (sort == SIGN) {
                return;
            }
            while (end < length && sortOf(bytes[end]) == sort) {
                end++;
            }
            if (start > 0 && sortOf(bytes[start - 1]) != SIGN) {
                sort = GLUED;
            }
        }

        private int signHere() {
            return sort == SIGN ? bytes[start] : NONE;
        }

        private boolean isWord(String word) {
            if (sort != LETTERS || end - start != word.length()) {
                return false;
            }
            for (int i = 0; i < word.length(); i++) {
                if (bytes[start + i] != word.charAt(i)) {
                    return false;
                }
            }
            return true;
        }

        private static int sortOf(int b) {
            if (b >= 'a' && b <= 'z') {
                return LETTERS;
            }
            return b >= '0' && b <= '9' ? DIGITS : SIGN;
        }

        private static int levelOf(int sign) {
            switch (sign) {
                case '|': return 0;
                case '&': return 1;
                case '<':
                case '=':
                case '>': return TEST_LEVEL;
                case '+':
                case '-': return 3;
                case '*':
                case '/': return 4;
                default: return NONE;
            }
        }

        private static String namesOf(int key) {
            if (key == KEY_RISK) {
                return "hn";
            }
            return key == KEY_ODDS ? "dm" : "fnm";
        }
    }
}
