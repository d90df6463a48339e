import java.io.IOException;
import java.nio.file.Files;
import java.nio.file.Path;
import java.util.Arrays;
import java.util.LinkedHashMap;
import java.util.Map;

/** The document that tests quote: each quote must stand there, and nothing of it may stay without a quote. */
final class Document {
    private static final Path FILE = Path.of("../shared/DOC.md");

    private final Due due;
    private final Map<String, String> texts = new LinkedHashMap<>();
    private final Map<String, boolean[]> quoted = new LinkedHashMap<>();

    Document(Due due) {
        this.due = due;
        if (!Files.isReadable(FILE)) {
            System.out.println("no document at " + FILE + ": quotes are not looked up");
            return;
        }
        try {
            read(Files.readString(FILE));
        } catch (IOException e) {
            throw new IllegalStateException(e);
        }
    }

    private void read(String all) {
        String[] parts = all.split("(?m)^## ");
        for (int i = 1; i < parts.length; i++) {
            int end = parts[i].indexOf('\n');
            String heading = parts[i].substring(0, end).replaceFirst(":.*", "");
            String text = oneLine(parts[i].substring(end).replaceAll("(?m)^```.*$", " "));
            texts.put(heading, text);
            quoted.put(heading, new boolean[text.length()]);
        }
    }

    private static String oneLine(String text) {
        return text.replaceAll("\\s+", " ").trim();
    }

    void quote(String heading, String words) {
        String text = texts.get(heading);
        if (text == null) {
            due.holds("the document has a part " + heading, texts.isEmpty());
            return;
        }
        int at = text.indexOf(oneLine(words));
        due.holds("the document says under " + heading + ": " + words, at >= 0);
        if (at >= 0) {
            Arrays.fill(quoted.get(heading), at, at + oneLine(words).length(), true);
        }
    }

    /** Fails for each stretch of words under a heading that no test quoted. */
    void allIsQuoted(String heading) {
        String text = texts.getOrDefault(heading, "");
        StringBuilder left = new StringBuilder();
        for (int i = 0; i < text.length(); i++) {
            left.append(quoted.get(heading)[i] ? '|' : text.charAt(i));
        }
        // A promise begins with its call, which the test of the face looks at.
        String words = left.toString().replaceFirst("^`[^`]*`: ?", "");
        words = words.replaceAll("======== \\d", " ").replaceAll("[|\\s]+", " ").trim();
        due.holds("under " + heading + " no test is for: " + words, words.isEmpty());
    }
}
