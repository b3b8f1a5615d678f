import java.io.IOException;
import java.nio.file.Files;
import java.nio.file.Path;

/** The document's own words, so that a test can name the sentence it stands for. */
final class Document {
    private static final Path FILE = Path.of("../shared/DOC.md");
    private final String text;

    Document() {
        String read = "";
        try {
            read = Files.readString(FILE);
        } catch (IOException e) {
            System.out.println("the sentences are not held against the document: " + e);
        }
        text = read;
    }

    boolean isThere() {
        return !text.isEmpty();
    }

    /** What is promised, without the call's head. */
    String promise(int number) {
        return plain(between("## Promise " + number + ": ", "\n## ").replaceFirst("(?s)^.*?`: ", ""));
    }

    /** The terms: part 0 is what stands ahead of the five numbered ones. */
    String terms(int part) {
        String[] parts = between("## Terms", "Ahead of the calls").split("======== ");
        return part < parts.length ? plain(parts[part]) : "";
    }

    static String plain(String words) {
        return words.replaceAll("(?m)^```\\w*", " ").replaceAll("\\s+", " ").trim();
    }

    private String between(String head, String tail) {
        int from = text.indexOf(head);
        if (from < 0) {
            return "";
        }
        int to = text.indexOf(tail, from + head.length());
        return text.substring(from + head.length(), to < 0 ? text.length() : to);
    }
}
