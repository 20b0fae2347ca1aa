import java.io.IOException;
import java.nio.file.Files;
import java.nio.file.Path;
import java.util.ArrayList;
import java.util.LinkedHashMap;
import java.util.List;
import java.util.Map;
import java.util.regex.Matcher;
import java.util.regex.Pattern;

/** DOC.md cut into its sections, and the clauses in them that name a boundary. */
final class Document {
    private static final Pattern PROMISE = Pattern.compile("## (Promise \\d+): .*");
    private static final Pattern CHAPTER = Pattern.compile("(==== [2-9]\\.) .*");
    /** A range, a limit, what holds at first, what is refused: a boundary is named where these stand. */
    private static final Pattern TERM = Pattern.compile("-?\\d+ to \\d+|[\\d,]+ at most|at most [\\d,]+|once at most"
        + "|at first|\\(not the same\\)|none if|of equal ones the first|ints wrap|modulo \\d+|within 5 of|within 5 others"
        + "|is empty then|0 if|99 if|unless fewer");
    private static final Pattern REFUSAL = Pattern.compile("(?:false|NONE|NoSuchElementException|-1): ([^:]*?)\\. *$");

    private final Map<String, String> sections = new LinkedHashMap<>();

    private Document() {
    }

    static Document read() throws IOException {
        Document document = new Document();
        String section = "";
        for (String line : Files.readAllLines(Path.of("..", "shared", "DOC.md"))) {
            Matcher promise = PROMISE.matcher(line);
            Matcher chapter = CHAPTER.matcher(line);
            if (promise.matches()) {
                section = promise.group(1);
            } else if (chapter.matches()) {
                section = chapter.group(1);
            } else if (line.startsWith("## ")) {
                section = line.substring(3).trim();
            }
            document.sections.merge(section, line.trim(), (before, more) -> before + " " + more);
        }
        return document;
    }

    boolean says(String section, String words) {
        return sections.getOrDefault(section, "").contains(words);
    }

    /** Section by section the clauses that a case must quote. */
    Map<String, List<String>> boundaries() {
        Map<String, List<String>> found = new LinkedHashMap<>();
        for (Map.Entry<String, String> section : sections.entrySet()) {
            String name = section.getKey();
            if (name.startsWith("Promise")) {
                found.put(name, refusals(section.getValue()));
            } else if (name.equals("Terms") || name.startsWith("====")) {
                found.put(name, terms(section.getValue()));
            }
        }
        return found;
    }

    private static List<String> terms(String text) {
        List<String> clauses = new ArrayList<>();
        Matcher matcher = TERM.matcher(text);
        while (matcher.find()) {
            clauses.add(matcher.group().trim());
        }
        return clauses;
    }

    private static List<String> refusals(String text) {
        List<String> clauses = new ArrayList<>();
        Matcher matcher = REFUSAL.matcher(text);
        if (!matcher.find()) {
            return clauses;
        }
        int open = 0;
        StringBuilder clause = new StringBuilder();
        for (char sign : (matcher.group(1) + ",").toCharArray()) {
            open += sign == '(' ? 1 : sign == ')' ? -1 : 0;
            if (sign == ',' && open == 0) {
                clauses.add(clause.toString().trim());
                clause.setLength(0);
            } else {
                clause.append(sign);
            }
        }
        return clauses;
    }
}
