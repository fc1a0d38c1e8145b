import java.io.IOException;
import java.nio.file.Files;
import java.nio.file.Path;
import java.util.ArrayList;
import java.util.LinkedHashMap;
import java.util.List;
import java.util.Map;
import java.util.regex.Matcher;
import java.util.regex.Pattern;

/** The document's own words, so that a test can name the sentence that it holds, and none is left out. */
final class Doc {
    private static final Path FILE = Path.of("../shared/DOC.md");

    private static final class Section {
        final String words;
        final boolean[] quoted;

        Section(String words) {
            this.words = words.replaceAll("\\s+", " ").trim();
            this.quoted = new boolean[this.words.length()];
        }
    }

    /** By their names: "Terms 1" to "Terms 4" and "Promise 1" to "Promise 26". */
    private final Map<String, Section> sections = new LinkedHashMap<>();

    static boolean isThere() {
        return Files.isReadable(FILE);
    }

    Doc() throws IOException {
        String all = Files.readString(FILE).replaceAll("(?m)^```.*$", "").replaceAll("(?m)^Ahead of the calls.*$", "");
        Matcher heads = Pattern.compile("(?ms)^## (Terms|Promise \\d+)[^\n]*\n(.*?)(?=^## |\\z)").matcher(all);
        while (heads.find()) {
            if (heads.group(1).equals("Terms")) {
                addTerms(heads.group(2));
            } else {
                // What stands in backquotes at the start is the call itself.
                sections.put(heads.group(1), new Section(heads.group(2).replaceFirst("(?s)^\\s*`[^`]*`:", "")));
            }
        }
    }

    private void addTerms(String terms) {
        String[] parts = terms.split("=+ \\d ");
        for (int i = 0; i < parts.length; i++) {
            sections.put("Terms " + (i + 1), new Section(parts[i]));
        }
    }

    List<String> names() {
        return new ArrayList<>(sections.keySet());
    }

    /** Whether a section has these words; they count as quoted then. */
    boolean quote(String section, String words) {
        Section s = sections.get(section);
        int at = s == null ? -1 : s.words.indexOf(words);
        boolean there = at >= 0;
        while (at >= 0) {
            for (int i = at; i < at + words.length(); i++) {
                s.quoted[i] = true;
            }
            at = s.words.indexOf(words, at + 1);
        }
        return there;
    }

    /** The words of all sections that no test has named. */
    List<String> unquoted() {
        List<String> left = new ArrayList<>();
        sections.forEach((name, s) -> {
            Matcher word = Pattern.compile("\\w+").matcher(s.words);
            while (word.find()) {
                if (!s.quoted[word.start()]) {
                    left.add(name + ": " + word.group());
                }
            }
        });
        return left;
    }
}
