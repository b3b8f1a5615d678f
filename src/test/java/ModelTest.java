import java.lang.reflect.Method;
import java.util.ArrayList;
import java.util.List;
import java.util.Random;

/** Long runs of calls by lot, the class against the model: each answer, and all that can be asked behind each refusal. */
public final class ModelTest {
    private static final int RUNS = 300;
    private static final int CALLS = 512;
    private static final int[] ODD = {Integer.MIN_VALUE, Integer.MAX_VALUE, -1, Model.NONE, 100000, -100000, 61, 25, 24, 100, 99, 10, -10, 96, 97};
    private static final Due due = new Due("ModelTest");

    private final Random lot;
    private final RidgeClaps x = new RidgeClaps();
    private final Model model = new Model();
    private final int run;
    private int calls = 0;

    private ModelTest(int run) {
        this.run = run;
        this.lot = new Random(run);
    }

    public static void main(String[] args) throws Exception {
        for (int run = 0; run < RUNS && !due.anyWrong(); run++) {
            new ModelTest(run).go();
        }
        due.end();
    }

    private static Method method(String name) {
        for (Method m : RidgeClaps.class.getDeclaredMethods()) {
            if (m.getName().equals(name)) {
                return m;
            }
        }
        throw new IllegalArgumentException(name);
    }

    /** An object is good for 512 calls: what would come behind them is left out. */
    private void ask(String name, int... a) throws Exception {
        if (calls >= CALLS) {
            return;
        }
        Object[] boxed = new Object[a.length];
        for (int i = 0; i < a.length; i++) {
            boxed[i] = a[i];
        }
        int want = model.call(name, a);
        int got = (Integer) method(name).invoke(x, boxed);
        due.is("run " + run + ", call " + calls + ": " + name + java.util.Arrays.toString(a), got, want);
        calls++;
    }

    private int num(int least, int most) {
        if (lot.nextInt(40) == 0) {
            return ODD[lot.nextInt(ODD.length)];
        }
        if (lot.nextInt(30) == 0) {
            return lot.nextBoolean() ? least - 1 : most + 1;
        }
        return least + lot.nextInt(most - least + 1);
    }

    private int spot() {
        return num(0, Math.max(0, model.w.spots.size() - 1));
    }

    private void go() throws Exception {
        if (lot.nextInt(3) > 0) {
            ask("seed", lot.nextInt());
            ask("deal", 1 + lot.nextInt(24));
        }
        while (calls < CALLS) {
            switch (lot.nextInt(8)) {
                case 0: ridge(); break;
                case 1: party(); break;
                case 2: best(); break;
                case 3: sheets(); break;
                case 4: slots(); break;
                case 5: texts(); break;
                case 6: images(); break;
                default: ask("count", num(0, 10)); break;
            }
        }
    }

    private void ridge() throws Exception {
        switch (lot.nextInt(10)) {
            case 0: ask("place", num(0, 5), num(0, 99)); break;
            case 1: case 2: ask("told", spot(), num(0, 4)); break;
            case 3: ask("as", spot(), num(0, 5)); break;
            case 4: ask("turns", spot(), num(0, 5)); break;
            case 5: ask("set", spot(), 1 + lot.nextInt(2), lot.nextInt(3) == 0 ? num(0, 99) : num(0, 1)); break;
            case 6: if (lot.nextInt(6) == 0) ask("deal", num(1, 24)); break;
            case 7: ask("storm", num(0, 1), lot.nextBoolean() ? num(0, 99) : num(-9, 9)); break;
            case 8: ask("sky", num(0, 60), num(0, 1)); break;
            default: ask("danger", spot(), num(0, 60)); break;
        }
    }

    private void party() throws Exception {
        switch (lot.nextInt(4)) {
            case 0: ask("come", lot.nextInt(6) == 0 ? Model.NONE : spot()); break;
            case 1: case 2: ask("step", num(0, 3)); break;
            default: ask("run", lot.nextInt(5) == 0 ? num(1, 60) : num(1, 6)); break;
        }
    }

    private void best() throws Exception {
        switch (lot.nextInt(5)) {
            case 0: case 1: ask("tree", spot(), num(1, 60), num(0, 1)); break;
            case 2: ask("rule", spot(), num(1, 60), num(0, 1)); break;
            case 3: ask("hide", spot(), lot.nextBoolean() ? num(0, 4) : num(0, 60)); break;
            default: ask("safest", num(1, 60)); break;
        }
    }

    private void sheets() throws Exception {
        int n = num(0, 3);
        switch (lot.nextInt(9)) {
            case 0: ask("sheet", n, num(-1, 1), num(0, 24)); break;
            case 1: case 2:
                int least = lot.nextInt(300);
                for (int i = 0; i < 24 && i < 2 + lot.nextInt(12); i++) {
                    int v = lot.nextInt(4) == 0 ? Model.NONE : lot.nextInt(9) == 0 ? num(-99999, 99999) : least + lot.nextInt(40) - 3 * i;
                    ask("mark", n, num(i, i), v);
                }
                break;
            case 3: ask("pour", n); break;
            case 4: marksRisks(n); break;
            case 5: ask("copy", n, num(0, 8), num(0, 3), num(0, 8), num(0, 8)); break;
            case 6: case 7: ask("claps", n, num(0, 3)); break;
            default: ask("hear", n); break;
        }
    }

    private void marksRisks(int n) throws Exception {
        int many = lot.nextInt(6);
        ask("sheet", n, num(0, 1), many);
        for (int i = 0; i < many && i < model.w.spots.size(); i++) {
            ask("mark", n, i, model.w.risk(i) + (lot.nextInt(9) == 0 ? 1 : 0));
        }
        ask("reads", n);
    }

    private void slots() throws Exception {
        int slot = num(0, 4);
        switch (lot.nextInt(5)) {
            case 0: case 1:
                int thing = num(0, 3);
                ask("lay", slot, thing, thing == 1 ? spot() : thing == 2 ? num(0, 3) : lot.nextInt());
                break;
            case 2: ask("ask", slot, num(0, 5)); break;
            case 3: ask("item", slot, num(0, 12)); break;
            default: ask("rest", slot, num(-9, 9)); break;
        }
    }

    private void texts() throws Exception {
        if (lot.nextInt(12) == 0) {
            ask("feed", lot.nextInt(), lot.nextInt(), lot.nextInt());
            ask("trim", num(0, 96));
            return;
        }
        if (lot.nextInt(4) == 0) {
            ask("textTold", num(0, Math.max(0, model.w.laws.size() - 1)), num(0, 1));
            ask("why", num(0, 2));
            return;
        }
        ask("trim", 0);
        String signs = Texts.some(lot);
        for (int i = 0; i < signs.length(); i += 12) {
            int[] v = new int[3];
            for (int k = 0; k < 12; k++) {
                v[k / 4] = v[k / 4] << 8 | (i + k < signs.length() ? signs.charAt(i + k) : 32);
            }
            ask("feed", v[0], v[1], v[2]);
        }
        ask("trim", signs.length());
        ask("text");
    }

    private void images() throws Exception {
        switch (lot.nextInt(5)) {
            case 0: ask("keep"); break;
            case 1: ask("back"); break;
            case 2: ask("tell", num(0, 9)); break;
            case 3: ask("check", num(1, 30)); break;
            default:
                if (model.image != null) {
                    tellMinutes();
                }
                break;
        }
    }

    private void tellMinutes() throws Exception {
        ask("check", 0);
        int n = 1 + lot.nextInt(4);
        List<Integer> row = new ArrayList<>(model.minutesTold(n));
        if (lot.nextInt(3) == 0 && !row.isEmpty()) {
            row.set(lot.nextInt(row.size()), lot.nextInt(5));
        }
        for (int v : row) {
            ask("tell", v);
        }
        ask("check", num(n, n));
    }
}
