import java.io.IOException;
import java.io.UncheckedIOException;
import java.nio.file.Files;
import java.nio.file.Path;
import java.util.ArrayList;
import java.util.LinkedHashMap;
import java.util.List;
import java.util.Map;
import java.util.regex.Matcher;
import java.util.regex.Pattern;

/**
 * The document's text by its parts: "Use", "Face", "Terms 1" to "Terms 6" (by its "===="), "Promise 1" to "Promise 37".
 * Tests name the words that they are of; which words no test is of is told in the end.
 */
final class Doc {
    private static final Path AT = Path.of("../shared/DOC.md");
    // A sentence's pieces end with one of these signs; two points side by side are none.
    private static final Pattern PIECE = Pattern.compile("\\S.*?(?:(?<!\\.)[.:;](?=\\s|$)|$)");

    private final Map<String, String> parts = new LinkedHashMap<>();
    private final Map<String, boolean[]> touched = new LinkedHashMap<>();

    Doc() {
        if (!Files.exists(AT)) {
            System.out.println("no document at " + AT + ": its words are not looked up");
            return;
        }
        try {
            split(Files.readString(AT));
        } catch (IOException e) {
            throw new UncheckedIOException(e);
        }
    }

    private void split(String text) {
        for (String section : text.split("(?m)^## ")) {
            int end = section.indexOf('\n');
            String title = end < 0 ? section : section.substring(0, end);
            String body = end < 0 ? "" : section.substring(end);
            if (title.equals("Terms")) {
                String[] terms = body.split("==== \\d\\.");
                for (int i = 0; i < terms.length; i++) {
                    put("Terms " + (i + 1), terms[i]);
                }
            } else if (title.startsWith("Promise")) {
                // The signature is the face's matter.
                put(title.replaceAll(":.*", ""), body.substring(body.indexOf("`: ") + 3));
            } else if (title.equals("What it is")) {
                put("Use", body.substring(body.indexOf("An object is used")));
            } else if (title.equals("The public face")) {
                put("Face", body);
            }
        }
    }

    private void put(String part, String body) {
        String plain = body.replaceAll("(?m)^```\\w*$", " ").replaceAll("\\s+", " ").trim();
        parts.put(part, plain);
        touched.put(part, new boolean[plain.length()]);
    }

    boolean isThere() {
        return !parts.isEmpty();
    }

    /** Whether these words stand in that part; they are touched then. */
    boolean touch(String part, String words) {
        if (!isThere()) {
            return true;
        }
        String text = parts.getOrDefault(part, "");
        int at = text.indexOf(words);
        if (at < 0 || words.isEmpty()) {
            return false;
        }
        java.util.Arrays.fill(touched.get(part), at, at + words.length(), true);
        return true;
    }

    String text(String part) {
        return parts.getOrDefault(part, "");
    }

    int promises() {
        int count = 0;
        for (String part : parts.keySet()) {
            count += part.startsWith("Promise") ? 1 : 0;
        }
        return count;
    }

    /** The pieces of sentences of which no word was touched. */
    List<String> untouched() {
        List<String> left = new ArrayList<>();
        for (Map.Entry<String, String> part : parts.entrySet()) {
            Matcher piece = PIECE.matcher(part.getValue());
            while (!part.getKey().equals("Face") && piece.find()) {
                boolean any = !piece.group().matches(".*[A-Za-z].*");
                for (int i = piece.start(); i < piece.end(); i++) {
                    any = any || touched.get(part.getKey())[i];
                }
                if (!any) {
                    left.add(part.getKey() + ": " + piece.group());
                }
            }
        }
        return left;
    }
}
