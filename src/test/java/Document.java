import java.io.IOException;
import java.nio.charset.StandardCharsets;
import java.nio.file.Files;
import java.nio.file.Path;
import java.util.ArrayList;
import java.util.LinkedHashMap;
import java.util.List;
import java.util.Map;

/** The document, by its headings. */
final class Document {
    private final Map<String, String> sections = new LinkedHashMap<>();

    private Document() {
    }

    static Document read(Path path) throws IOException {
        Document document = new Document();
        String heading = "";
        for (String line : Files.readAllLines(path, StandardCharsets.UTF_8)) {
            if (line.startsWith("#")) {
                heading = line.replaceFirst("^#+ ", "");
                document.sections.put(heading, "");
            } else {
                document.sections.merge(heading, line + "\n", String::concat);
            }
        }
        return document;
    }

    Iterable<String> headings() {
        return sections.keySet();
    }

    /** The text under a heading, up to the next one. */
    String under(String heading) {
        return sections.getOrDefault(heading, "");
    }

    /** The parts of the sentences under a heading that none of the quotes touches. */
    List<String> partsWithout(String heading, List<Check.Quote> quotes) {
        String text = under(heading);
        boolean[] quoted = new boolean[text.length()];
        for (Check.Quote quote : quotes) {
            if (quote.heading().equals(heading)) {
                mark(quoted, text, quote.words());
            }
        }
        List<String> parts = new ArrayList<>();
        int start = 0;
        for (int end = 1; end <= text.length(); end++) {
            if (end == text.length() || isEnd(text, end)) {
                String part = text.substring(start, end).strip();
                if (!part.isEmpty() && !anyMarked(quoted, start, end)) {
                    parts.add(part);
                }
                start = end;
            }
        }
        return parts;
    }

    private static void mark(boolean[] quoted, String text, String words) {
        for (int at = text.indexOf(words); at >= 0; at = text.indexOf(words, at + 1)) {
            for (int i = at; i < at + words.length(); i++) {
                quoted[i] = true;
            }
        }
    }

    private static boolean anyMarked(boolean[] quoted, int start, int end) {
        for (int i = start; i < end; i++) {
            if (quoted[i]) {
                return true;
            }
        }
        return false;
    }

    /** A part ends with the line, or by a point, a semicolon or a colon that a blank follows. */
    private static boolean isEnd(String text, int end) {
        char last = text.charAt(end - 1);
        boolean stop = last == '.' || last == ';' || last == ':';
        return last == '\n' || (stop && Character.isWhitespace(text.charAt(end)));
    }
}
