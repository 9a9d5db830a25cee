import java.io.IOException;
import java.nio.file.Files;
import java.nio.file.Path;
import java.util.ArrayList;
import java.util.LinkedHashMap;
import java.util.List;
import java.util.Map;
import java.util.Set;

/** Tests of single sentences: each test quotes the words of the document that it holds the class to. */
final class Sentences {
    interface Test {
        void run();
    }

    private static final Path DOCUMENT = Path.of("../shared/DOC.md");
    /** Words that promise nothing, so no test can hold the class to them. */
    private static final Set<String> FREE = Set.of("what later calls answer is free");

    private static final Map<String, List<String>> QUOTES = new LinkedHashMap<>();
    private static String place = "";

    private Sentences() {
    }

    /** The promise or paragraph that the next tests quote, as "Promise 7" or "Description, Undo". */
    static void from(String newPlace) {
        place = newPlace;
    }

    static void test(String quote, Test test) {
        QUOTES.computeIfAbsent(place, key -> new ArrayList<>()).add(plain(quote));
        Due.about(place + " \"" + quote + "\": ");
        int before = Due.asked();
        try {
            test.run();
        } catch (RuntimeException e) {
            Due.is("a call of the test itself", e.toString(), "no exception");
        }
        Due.is("the number of answers looked at", Due.asked() > before);
        Due.about("");
    }

    /** Says that each quote stands at its place, and that no clause there is without a test. */
    static void compareWithDocument() throws IOException {
        if (!Files.isReadable(DOCUMENT)) {
            System.out.println("no " + DOCUMENT + ": the quotes were not compared with it");
            return;
        }
        Map<String, List<String>> paragraphs = paragraphsOf(Files.readAllLines(DOCUMENT));
        QUOTES.forEach((where, quotes) -> {
            String text = String.join(" ", paragraphs.getOrDefault(where, List.of()));
            quotes.forEach(quote -> Due.is(where + " has the words \"" + quote + "\"", text.contains(quote)));
        });
        paragraphs.forEach((where, texts) -> {
            List<String> quotes = QUOTES.getOrDefault(where, List.of());
            texts.forEach(text -> clausesAreTested(where, text, quotes));
        });
    }

    private static void clausesAreTested(String where, String text, List<String> quotes) {
        for (String part : text.split("(?<=[.;]) ")) {
            String clause = part.replaceAll("[.;]$", "");
            boolean tested = quotes.stream().anyMatch(q -> q.contains(clause) || clause.contains(q));
            Due.is(where + " has a test for \"" + clause + "\"", tested || FREE.contains(clause));
        }
    }

    private static String plain(String text) {
        return text.replace("`", "").replaceAll("\\s+", " ").trim();
    }

    /** What the document says, by place; without its headings, signatures and examples. */
    private static Map<String, List<String>> paragraphsOf(List<String> lines) {
        Map<String, List<String>> found = new LinkedHashMap<>();
        String section = "";
        for (String line : joined(lines)) {
            if (line.startsWith("## ")) {
                section = line.substring(3).replaceAll("^(Promise \\d+):.*", "$1");
            } else if (section.equals("Description")) {
                addDescription(found, line);
            } else if (section.equals("What it is") || section.startsWith("Promise ")) {
                if (!line.startsWith("`") && !line.startsWith("----")) {
                    add(found, section, line.replaceAll("^- ", ""));
                }
            }
        }
        return found;
    }

    /** A paragraph there begins with its title; the examples have a test class of their own. */
    private static void addDescription(Map<String, List<String>> found, String line) {
        if (line.startsWith("- ")) {
            add(found, "Description, The constants", line.substring(2));
        } else if (line.matches("[A-Z][a-z ]+\\. .*")) {
            int dot = line.indexOf(". ");
            add(found, "Description, " + line.substring(0, dot), line.substring(dot + 2));
        }
    }

    private static void add(Map<String, List<String>> found, String where, String text) {
        found.computeIfAbsent(where, key -> new ArrayList<>()).add(plain(text));
    }

    /** The paragraphs, each in one line; a heading and an item of a list are paragraphs too. */
    private static List<String> joined(List<String> lines) {
        List<String> paragraphs = new ArrayList<>();
        StringBuilder open = new StringBuilder();
        for (String line : lines) {
            if (line.isBlank() || line.startsWith("- ") || line.startsWith("#")) {
                paragraphs.add(open.toString());
                open.setLength(0);
            }
            open.append(open.length() == 0 ? "" : " ").append(line.trim());
        }
        paragraphs.add(open.toString());
        paragraphs.removeIf(String::isBlank);
        return paragraphs;
    }
}
