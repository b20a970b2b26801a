import java.io.IOException;
import java.io.UncheckedIOException;
import java.nio.file.Files;
import java.nio.file.Path;
import java.util.ArrayList;
import java.util.LinkedHashMap;
import java.util.List;
import java.util.Map;

/** The sentences of DOC.md: those of "What it is", of "Terms", and of each promise. */
final class Document {
    private static final Path PLACE = Path.of("../shared/DOC.md");

    private final Map<String, List<String>> sections = new LinkedHashMap<>();

    Document() {
        try {
            for (String part : Files.readString(PLACE).split("(?m)^## ")) {
                String title = part.lines().findFirst().orElse("");
                String name = title.replaceFirst(":.*", "");
                if (name.equals("What it is") || name.equals("Terms") || name.startsWith("Promise ")) {
                    sections.put(name, sentencesOf(part.substring(title.length())));
                }
            }
        } catch (IOException e) {
            throw new UncheckedIOException(e);
        }
    }

    private static List<String> sentencesOf(String text) {
        // The call that a promise begins with is no part of its first sentence.
        String plain = text.replaceAll("(?m)^```.*$", "").replaceAll("\\s+", " ")
                .replaceFirst("^ `[^`]*`: ", "");
        List<String> all = new ArrayList<>();
        // Two dots one behind the other end no sentence; a bracket may close behind the dot.
        for (String s : plain.split("(?<!\\.)\\.\\)?(?=\\s|$)")) {
            String sentence = s.trim();
            if (!sentence.isEmpty() && !sentence.matches("\\d+")) {
                all.add(sentence);
            }
        }
        return all;
    }

    Map<String, List<String>> sections() {
        return sections;
    }

    boolean says(String section, String sentence) {
        return sections.getOrDefault(section, List.of()).contains(sentence);
    }
}
