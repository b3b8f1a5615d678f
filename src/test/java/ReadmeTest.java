import java.lang.reflect.Method;
import java.nio.file.Files;
import java.nio.file.Path;
import java.util.Set;
import java.util.TreeSet;
import java.util.regex.Matcher;
import java.util.regex.Pattern;

/** The lines of README.md: each call there answers what the page says, and the page names every call and constant. */
public final class ReadmeTest {
    private static final Due due = new Due("ReadmeTest");
    private static final Pattern CALL = Pattern.compile("x\\.(\\w+)\\(([^)]*)\\); +// ([A-Z]+|-?\\d+)(:.*)?");

    public static void main(String[] args) throws Exception {
        String page = Files.readString(Path.of("README.md"));
        Matcher block = Pattern.compile("(?s)```java\n(.*?)```").matcher(page);
        int calls = 0;
        while (block.find()) {
            calls += goThrough(block.group(1));
        }
        due.holds("the page has calls", calls > 0);
        for (String name : face()) {
            due.holds("the page names " + name, page.contains("`" + name + "`"));
        }
        due.end();
    }

    /** How many calls there were. */
    private static int goThrough(String block) throws Exception {
        RidgeClaps x = null;
        int calls = 0;
        for (String line : block.split("\n")) {
            Matcher call = CALL.matcher(line);
            if (line.equals("RidgeClaps x = new RidgeClaps();")) {
                x = new RidgeClaps();
            } else if (call.matches() && x != null) {
                due.is("README: " + line, answer(x, call.group(1), call.group(2)), number(call.group(3)));
                calls++;
            } else {
                due.holds("README: a line that can be read: " + line, line.isBlank());
            }
        }
        return calls;
    }

    private static int answer(RidgeClaps x, String name, String list) throws Exception {
        String[] given = list.isBlank() ? new String[0] : list.split(", *");
        Object[] numbers = new Object[given.length];
        Class<?>[] types = new Class<?>[given.length];
        for (int i = 0; i < given.length; i++) {
            numbers[i] = number(given[i]);
            types[i] = int.class;
        }
        return (Integer) RidgeClaps.class.getMethod(name, types).invoke(x, numbers);
    }

    private static int number(String word) throws Exception {
        return Character.isUpperCase(word.charAt(0)) ? RidgeClaps.class.getField(word).getInt(null) : Long.decode(word).intValue();
    }

    private static Set<String> face() {
        Set<String> names = new TreeSet<>();
        for (Method m : RidgeClaps.class.getDeclaredMethods()) {
            if (java.lang.reflect.Modifier.isPublic(m.getModifiers())) {
                names.add(m.getName());
            }
        }
        for (java.lang.reflect.Field f : RidgeClaps.class.getFields()) {
            names.add(f.getName());
        }
        return names;
    }
}
