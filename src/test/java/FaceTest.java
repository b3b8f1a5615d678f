import java.lang.reflect.Constructor;
import java.lang.reflect.Field;
import java.lang.reflect.Method;
import java.lang.reflect.Modifier;
import java.nio.file.Files;
import java.nio.file.Path;
import java.util.ArrayList;
import java.util.List;
import java.util.TreeSet;

/** The public face, and those rules of LANGUAGE.md that a reader of the class or its source can see. */
public final class FaceTest {
    private static final Due due = new Due("FaceTest");
    private static final String[] METHODS = {
        "place 2", "told 2", "as 2", "turns 2", "set 3", "deal 1", "seed 1", "storm 2", "sky 2", "danger 2", "come 1",
        "step 1", "run 1", "tree 3", "rule 3", "hide 2", "safest 1", "claps 2", "hear 1", "feed 3", "trim 1", "text 0",
        "textTold 2", "why 1", "sheet 3", "mark 3", "pour 1", "reads 1", "copy 5", "lay 3", "ask 2", "item 2", "rest 2",
        "tell 1", "check 1", "keep 0", "back 0", "count 1"};
    private static final String[] CONSTANTS = {"BAD", "NO", "FULL", "NONE", "NOTHING", "KIND", "INDEX", "SIZE"};
    private static final int[] VALUES = {-1000000001, -1000000002, -1000000003, -1000000005, -1000000011, -1000000012, -1000000013, -1000000014};

    public static void main(String[] args) throws Exception {
        constants();
        members();
        for (Class<?> c : RidgeClaps.class.getDeclaredClasses()) {
            inside(c);
        }
        due.holds("at most twelve classes", RidgeClaps.class.getDeclaredClasses().length < 12);
        String text = Files.readString(Path.of("src/main/java/RidgeClaps.java"));
        source(text);
        Document document = new Document();
        if (document.isThere()) {
            asTheDocument(document, text.split("\n"));
        }
        due.end();
    }

    /** The public members and the headings ahead of them, word by word and in the document's order. */
    private static void asTheDocument(Document document, String[] lines) {
        List<String> members = new ArrayList<>();
        List<List<String>> headings = new ArrayList<>();
        for (String line : lines) {
            if (line.startsWith("    public ")) {
                members.add(line.trim().replaceFirst(" \\{$", ";"));
            }
            if (line.startsWith("    // ----")) {
                headings.add(new ArrayList<>(List.of(line.trim().substring(3))));
            } else if (line.startsWith("    public int ") && !headings.isEmpty()) {
                headings.get(headings.size() - 1).add(line.replaceFirst("^    public int (\\w+)\\(.*", "$1"));
            }
        }
        List<String> face = document.face();
        due.is("members of the face", members.size(), face.size());
        for (int i = 0; i < face.size() && i < members.size(); i++) {
            due.holds("the document's " + face.get(i) + ", here " + members.get(i), face.get(i).equals(members.get(i)));
        }
        due.is("constants, constructor, methods in the document", face.size(), 2 + METHODS.length);
        due.holds("the headings of the document " + document.headings() + ", here " + headings, headings.equals(document.headings()));
    }

    private static void constants() throws Exception {
        for (int i = 0; i < CONSTANTS.length; i++) {
            Field f = RidgeClaps.class.getField(CONSTANTS[i]);
            due.is(CONSTANTS[i], f.getInt(null), VALUES[i]);
        }
        due.is("public fields", RidgeClaps.class.getFields().length, CONSTANTS.length);
    }

    private static void members() {
        Class<?> c = RidgeClaps.class;
        due.holds("public and final", Modifier.isPublic(c.getModifiers()) && Modifier.isFinal(c.getModifiers()));
        TreeSet<String> names = new TreeSet<>();
        for (Method m : c.getDeclaredMethods()) {
            if (!Modifier.isPrivate(m.getModifiers())) {
                names.add(m.getName() + " " + m.getParameterCount());
                due.holds(m.getName() + " answers an int", m.getReturnType() == int.class);
                due.holds(m.getName() + " is public", Modifier.isPublic(m.getModifiers()) && !Modifier.isStatic(m.getModifiers()));
            } else {
                notPublicName(m);
            }
        }
        due.holds("the methods of the document and no others", names.equals(new TreeSet<>(List.of(METHODS))));
        for (Field f : c.getDeclaredFields()) {
            boolean open = List.of(CONSTANTS).contains(f.getName());
            due.holds(f.getName() + " is private or of the face", open ? Modifier.isPublic(f.getModifiers()) : Modifier.isPrivate(f.getModifiers()));
            staticField(f);
        }
        Constructor<?>[] made = c.getDeclaredConstructors();
        due.holds("one constructor", made.length == 1 && made[0].getParameterCount() == 0 && Modifier.isPublic(made[0].getModifiers()));
    }

    private static void notPublicName(Method m) {
        for (String face : METHODS) {
            due.holds(m + " bears the name of a public one", !face.startsWith(m.getName() + " "));
        }
    }

    private static void staticField(Field f) {
        if (Modifier.isStatic(f.getModifiers())) {
            due.holds(f + " is final", Modifier.isFinal(f.getModifiers()));
            due.holds(f + " may be static", List.of(int.class, long.class, boolean.class, char.class, String.class, int[].class).contains(f.getType()));
        }
    }

    private static void inside(Class<?> c) {
        due.holds(c + " is static", Modifier.isStatic(c.getModifiers()));
        due.holds(c + " is not public", !Modifier.isPublic(c.getModifiers()) && !Modifier.isProtected(c.getModifiers()));
        int own = 0;
        for (Field f : c.getDeclaredFields()) {
            staticField(f);
            own += Modifier.isStatic(f.getModifiers()) ? 0 : 1;
        }
        due.holds(c + " has some twenty fields", own <= 20);
        for (Method m : c.getDeclaredMethods()) {
            notPublicName(m);
            due.holds(m + " takes seven at most", m.getParameterCount() <= 7);
        }
    }

    private static void source(String text) {
        String[] lines = text.split("\n");
        int opened = 0;
        for (int i = 0; i < lines.length; i++) {
            String code = lines[i].replaceAll("/\\*.*|^ *\\*.*|//.*", "").replaceAll("'.'|\"[^\"]*\"", "0");
            due.holds("line " + (i + 1) + " has no other word", !code.matches(".*\\b(throw|throws|try|catch|synchronized|assert|package|double|NaN|instanceof|System\\.(?!arraycopy)\\w+|\\w+Exact)\\b.*"));
            due.holds("line " + (i + 1) + " has no lambda", !code.contains("->") && !code.contains("::"));
            due.holds("line " + (i + 1) + " imports Arrays alone", !code.startsWith("import") || code.equals("import java.util.Arrays;"));
            due.holds("line " + (i + 1) + " has plain signs", lines[i].chars().allMatch(c -> c >= 32 && c < 127));
            if (code.matches("    (    )?\\S.*\\(.*\\) \\{")) {
                opened = i;
            }
            if (code.matches("    (    )?\\}")) {
                due.holds("the method at line " + (opened + 1) + " is short", i - opened <= 60);
            }
        }
        for (String call : new String[] {"Arrays.(?!fill|copyOf)\\w+", "Math.(?!min|max|abs)\\w+", "Integer\\.\\w+", "\\bLong\\b"}) {
            due.holds("no " + call, !java.util.regex.Pattern.compile(call).matcher(text).find());
        }
    }
}
