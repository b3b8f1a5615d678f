import java.util.ArrayList;
import java.util.Arrays;
import java.util.HashSet;
import java.util.IdentityHashMap;
import java.util.List;
import java.util.Map;
import java.util.Set;
import java.util.TreeMap;
import java.util.function.Supplier;
import java.util.function.ToIntFunction;

/**
 * Tests of boundary cases, each with a name of its own under the sentence of the document that it stands for.
 * Sentences that are not in the document, have no test, or are left out, are told as wrong, too.
 */
final class Edges {
    private final Due due;
    private final Document document = new Document();
    private final Map<String, String> texts = new TreeMap<>();
    private final Map<String, boolean[]> quoted = new TreeMap<>();
    private final Map<Supplier<RidgeClaps>, List<Integer>> wholes = new IdentityHashMap<>();
    private final Set<String> names = new HashSet<>();
    private String sentence = "";
    private int under = 1;

    Edges(String name) {
        due = new Due(name);
    }

    /** The tests that follow stand for these words of a promise. */
    void of(int promise, String words) {
        begin("promise " + promise, document.promise(promise), words);
    }

    /** The tests that follow stand for these words of a part of the terms. */
    void ofTerms(int part, String words) {
        begin("terms " + part, document.terms(part), words);
    }

    private void begin(String where, String all, String words) {
        due.holds("a test for " + sentence, under > 0);
        under = 0;
        sentence = where + " \"" + words + "\"";
        if (!document.isThere()) {
            return;
        }
        texts.put(where, all);
        boolean[] marks = quoted.computeIfAbsent(where, w -> new boolean[all.length()]);
        int at = all.indexOf(words);
        due.holds("the document has " + sentence, at >= 0);
        for (; at >= 0; at = all.indexOf(words, at + 1)) {
            Arrays.fill(marks, at, at + words.length(), true);
        }
    }

    void is(String edge, long got, long want) {
        under++;
        due.holds("one test alone is named " + sentence + " " + edge, names.add(sentence + edge));
        due.is(sentence + " " + edge, got, want);
    }

    /** The call is refused with this answer, and changes nothing. */
    void refused(String edge, Supplier<RidgeClaps> made, ToIntFunction<RidgeClaps> call, int want) {
        is(edge, call.applyAsInt(made.get()), want);
        same(edge + ": changes nothing", () -> {
            RidgeClaps x = made.get();
            call.applyAsInt(x);
            return x;
        }, made);
    }

    /** Both objects are the same in all that can be asked. */
    void same(String edge, Supplier<RidgeClaps> made, Supplier<RidgeClaps> asThis) {
        List<Integer> want = wholes.computeIfAbsent(asThis, Whole::of);
        List<Integer> got = Whole.of(made);
        int first = 0;
        while (first < want.size() && first < got.size() && want.get(first).equals(got.get(first))) {
            first++;
        }
        is(edge + " (the first number of the whole that is otherwise)", got.equals(want) ? -1 : first, -1);
    }

    /** Tells the promises from first to last that have no test, and what is quoted by none of those that have. */
    void end(int first, int last) {
        for (int promise = first; promise <= last; promise++) {
            due.holds("promise " + promise + " has tests", !document.isThere() || quoted.containsKey("promise " + promise));
        }
        end();
    }

    /** Tells what is quoted by no test, of the promises and parts that were named. */
    void end() {
        due.holds("a test for " + sentence, under > 0);
        for (Map.Entry<String, boolean[]> e : quoted.entrySet()) {
            for (String left : leftOut(texts.get(e.getKey()), e.getValue())) {
                due.holds(e.getKey() + ": no test for \"" + left + "\"", false);
            }
        }
        due.end();
    }

    private static List<String> leftOut(String words, boolean[] marks) {
        List<String> left = new ArrayList<>();
        int from = 0;
        for (int i = 0; i <= words.length(); i++) {
            if (i == words.length() || marks[i]) {
                String piece = words.substring(from, i).trim();
                if (!piece.isEmpty()) {
                    left.add(piece);
                }
                from = i + 1;
            }
        }
        return left;
    }
}
