import java.io.IOException;
import java.io.UncheckedIOException;
import java.nio.file.Files;
import java.nio.file.Path;
import java.util.LinkedHashMap;
import java.util.Map;
import java.util.regex.Matcher;
import java.util.regex.Pattern;

/** The parts of ../shared/DOC.md whose words are promised, by name, each with single blanks between its words. */
final class Document {
    private static final Path PLACE = Path.of("../shared/DOC.md");
    private static final String BEGINS = "^(?:==== (\\d)|## (Promise \\d+): .*|(Answers):|(In doubt)\\.|The (constants):|(Ahead of the calls) .*|## (.*)|(# .*))";

    private Document() {
    }

    static Map<String, String> parts() {
        Map<String, StringBuilder> parts = new LinkedHashMap<>();
        Pattern begins = Pattern.compile(BEGINS);
        String part = "";
        for (String line : lines()) {
            Matcher begun = begins.matcher(line);
            if (begun.find()) {
                part = nameOf(begun);
                line = line.substring(begun.end());
            }
            String words = line.equals("```text") || line.equals("```") ? "" : line;
            parts.computeIfAbsent(part, name -> new StringBuilder()).append(' ').append(words);
        }
        Map<String, String> promised = new LinkedHashMap<>();
        for (Map.Entry<String, StringBuilder> one : parts.entrySet()) {
            if (one.getKey().matches("Terms \\d|Promise \\d+|Answers|In doubt|Constants")) {
                promised.put(one.getKey(), oneBlankEach(withoutHead(one.getValue().toString())));
            }
        }
        return promised;
    }

    static String oneBlankEach(String words) {
        return words.trim().replaceAll("\\s+", " ");
    }

    private static String nameOf(Matcher begun) {
        if (begun.group(1) != null) return "Terms " + begun.group(1);
        if (begun.group(2) != null) return begun.group(2);
        if (begun.group(3) != null) return "Answers";
        if (begun.group(4) != null) return "In doubt";
        if (begun.group(5) != null) return "Constants";
        return "";
    }

    /** A promise begins with the call's head, which LanguageTest holds against the class. */
    private static String withoutHead(String words) {
        return words.replaceFirst("^\\s*`[^`]*\\)`: ", "");
    }

    private static Iterable<String> lines() {
        try {
            return Files.readAllLines(PLACE);
        } catch (IOException e) {
            throw new UncheckedIOException(e);
        }
    }
}
