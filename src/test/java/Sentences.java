import java.io.IOException;
import java.nio.charset.StandardCharsets;
import java.nio.file.Files;
import java.nio.file.Path;
import java.util.ArrayList;
import java.util.Arrays;
import java.util.LinkedHashMap;
import java.util.List;
import java.util.Map;
import java.util.regex.Matcher;
import java.util.regex.Pattern;

/** The sections and promises of the document, and which of their words the tests have named. */
final class Sentences {
    private static final Pattern SECTION = Pattern.compile("([1-7])\\. [A-Z].*");
    private static final Pattern PROMISE = Pattern.compile("## (Promise \\d+): .*");

    private final Map<String, String> parts = new LinkedHashMap<>();
    private final Map<String, boolean[]> named = new LinkedHashMap<>();

    /** Without the file there is nothing to look up; the tests of the class do not need it. */
    Sentences(Path file) throws IOException {
        String[] lines = Files.exists(file) ? Files.readString(file, StandardCharsets.UTF_8).split("\n") : new String[0];
        String part = "";
        for (String line : lines) {
            Matcher section = SECTION.matcher(line);
            Matcher promise = PROMISE.matcher(line);
            if (promise.matches()) {
                part = promise.group(1);
            } else if (section.matches()) {
                part = "Section " + section.group(1);
            } else if (line.startsWith("#")) {
                part = line.equals("## What it is") ? "What it is" : "";
            } else if (!part.isEmpty()) {
                parts.merge(part, line, (a, b) -> (a + " " + b).replaceAll("\\s+", " ").strip());
            }
        }
        // FaceTest looks at the heads of the promises, which tell a constructor's or a method's face.
        parts.replaceAll((p, text) -> p.startsWith("Promise") ? text.replaceFirst("^`[^`]*`: ", "") : text);
        parts.forEach((p, text) -> named.put(p, new boolean[text.length()]));
    }

    /** Notes that a test names a sentence; false if the document does not say it there. */
    boolean name(String part, String sentence) {
        if (parts.isEmpty()) {
            return true;
        }
        int at = parts.getOrDefault(part, "").indexOf(sentence);
        if (at >= 0) {
            Arrays.fill(named.get(part), at, at + sentence.length(), true);
        }
        return at >= 0;
    }

    /** What the document says and no test has named. */
    List<String> unnamed() {
        List<String> all = new ArrayList<>();
        parts.forEach((part, text) -> {
            StringBuilder rest = new StringBuilder();
            for (int i = 0; i < text.length(); i++) {
                rest.append(named.get(part)[i] ? '\n' : text.charAt(i));
            }
            for (String words : rest.toString().split("\n+")) {
                if (words.matches(".*\\w.*")) {
                    all.add(part + ": " + words.strip());
                }
            }
        });
        return all;
    }
}
