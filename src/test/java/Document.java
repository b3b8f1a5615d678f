import java.io.IOException;
import java.nio.file.Files;
import java.nio.file.Path;
import java.util.ArrayList;
import java.util.List;
import java.util.regex.Matcher;
import java.util.regex.Pattern;

/** The document's own words, so that a test can name the sentence it stands for. */
final class Document {
    private static final Path FILE = Path.of("../shared/DOC.md");
    private final String text;

    Document() {
        String read = "";
        try {
            read = Files.readString(FILE);
        } catch (IOException e) {
            System.out.println("the sentences are not held against the document: " + e);
        }
        text = read;
    }

    boolean isThere() {
        return !text.isEmpty();
    }

    /** What is promised, without the call's head. */
    String promise(int number) {
        return plain(between("## Promise " + number + ": ", "\n## ").replaceFirst("(?s)^.*?`: ", ""));
    }

    /** The terms: part 0 is what stands ahead of the five numbered ones. */
    String terms(int part) {
        String[] parts = between("## Terms", "Ahead of the calls").split("======== ");
        return part < parts.length ? plain(parts[part]) : "";
    }

    /** The members of the public face, one a line, without the class's own head and end. */
    List<String> face() {
        List<String> lines = new ArrayList<>();
        for (String line : between("## The public face", "## Terms").split("\n")) {
            if (line.startsWith("    public ")) {
                lines.add(line.trim());
            }
        }
        return lines;
    }

    /** What the interface says ahead of which calls: the heading, then the calls' names. */
    List<List<String>> headings() {
        List<List<String>> all = new ArrayList<>();
        Matcher said = Pattern.compile("Ahead of the calls (.*) the interface says: (.*)\\.").matcher(text);
        while (said.find()) {
            List<String> one = new ArrayList<>();
            one.add(said.group(2));
            for (String name : said.group(1).split(", ")) {
                one.add(name.replace("`", ""));
            }
            all.add(one);
        }
        return all;
    }

    static String plain(String words) {
        return words.replaceAll("(?m)^```\\w*", " ").replaceAll("\\s+", " ").trim();
    }

    private String between(String head, String tail) {
        int from = text.indexOf(head);
        if (from < 0) {
            return "";
        }
        int to = text.indexOf(tail, from + head.length());
        return text.substring(from + head.length(), to < 0 ? text.length() : to);
    }
}
