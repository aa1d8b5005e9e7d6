import java.io.IOException;
import java.nio.file.Files;
import java.nio.file.Path;
import java.util.ArrayList;
import java.util.LinkedHashMap;
import java.util.List;
import java.util.Map;
import java.util.regex.Matcher;
import java.util.regex.Pattern;

/** DOC.md by its headings, and which of its words a test has named. */
final class Document {
    private static final Pattern CLAUSE = Pattern.compile("(?:[^.;\n]|[.;](?![ \n]))+[.;]?");

    /** The texts under the headings, a line each paragraph. */
    private final Map<String, String> texts = new LinkedHashMap<>();
    private final Map<String, boolean[]> named = new LinkedHashMap<>();

    Document(Path file) throws IOException {
        String heading = "";
        for (String line : Files.readAllLines(file)) {
            if (line.startsWith("#")) {
                heading = line.replaceFirst("#+ ", "").replaceFirst(": .*", "");
            } else {
                texts.merge(heading, line.isBlank() || line.startsWith("- ") ? "\n" + line : " " + line, String::concat);
            }
        }
        texts.replaceAll((name, text) -> text.replaceAll(" +", " ").replaceAll(" ?\n ?", "\n"));
        texts.forEach((name, text) -> named.put(name, new boolean[text.length()]));
    }

    /** Returns whether the words stand under the heading, and takes them as named. */
    boolean names(String heading, String words) {
        String text = texts.getOrDefault(heading, "");
        int from = text.indexOf(words);
        for (int i = from; i >= 0 && i < from + words.length(); i++) {
            named.get(heading)[i] = true;
        }
        return from >= 0;
    }

    List<String> headings() {
        return new ArrayList<>(texts.keySet());
    }

    /** The clauses under the heading of which no word has been named. */
    List<String> leftOut(String heading) {
        List<String> clauses = new ArrayList<>();
        Matcher matcher = CLAUSE.matcher(texts.getOrDefault(heading, ""));
        while (matcher.find()) {
            boolean any = false;
            for (int i = matcher.start(); i < matcher.end(); i++) {
                any |= named.get(heading)[i];
            }
            if (!any && !matcher.group().isBlank()) {
                clauses.add(matcher.group().trim());
            }
        }
        return clauses;
    }
}
