import java.io.ByteArrayOutputStream;
import java.io.IOException;
import java.io.PrintStream;
import java.nio.file.Files;
import java.nio.file.Path;
import java.util.ArrayList;
import java.util.List;
import java.util.regex.Matcher;
import java.util.regex.Pattern;
import java.util.stream.Stream;

/** README.md: what it shows and quotes is what the program prints and the document says. */
final class ReadmeTest {
    private static final Path README = Path.of("README.md");
    private static final Path DOCUMENT = Path.of("../shared/DOC.md");
    private static final Path TESTS = Path.of("src/test/java");

    public static void main(String[] args) throws IOException {
        String readme = Files.readString(README);
        Due.is("the program", blockOf(readme, "java"), Files.readString(TESTS.resolve("ReadmeExample.java")));
        Due.is("what it prints", blockOf(readme, "text"), printedByExample());
        everyTestIsNamed(readme);
        if (Files.isReadable(DOCUMENT)) {
            String document = Files.readString(DOCUMENT);
            quotesStandIn(document, readme);
            everyCallIsListed(document, readme);
        } else {
            System.out.println("no " + DOCUMENT + ": the quotes were not compared with it");
        }
        Due.end();
    }

    private static String blockOf(String readme, String language) {
        Matcher block = Pattern.compile("(?s)\n```" + language + "\n(.*?)```\n").matcher(readme);
        return block.find() ? block.group(1) : "no block";
    }

    private static String printedByExample() {
        ByteArrayOutputStream printed = new ByteArrayOutputStream();
        PrintStream before = System.out;
        System.setOut(new PrintStream(printed, true));
        ReadmeExample.main(new String[0]);
        System.setOut(before);
        return printed.toString().replace(System.lineSeparator(), "\n");
    }

    private static void everyTestIsNamed(String readme) throws IOException {
        try (Stream<Path> files = Files.list(TESTS)) {
            files.map(file -> file.getFileName().toString()).filter(name -> name.endsWith("Test.java"))
                    .map(name -> name.replace(".java", ""))
                    .forEach(test -> Due.is(test + " is told of", readme.contains("\n- `" + test + "`: ")));
        }
    }

    private static void quotesStandIn(String document, String readme) {
        List<String> quotes = quotesOf(readme);
        Due.is("there are quotes", !quotes.isEmpty());
        for (String quote : quotes) {
            Due.is("the document says \"" + quote + "\"", plain(document).contains(quote));
        }
    }

    private static List<String> quotesOf(String readme) {
        List<String> quotes = new ArrayList<>();
        Matcher quote = Pattern.compile("(?m)(^> .*\n)+").matcher(readme);
        while (quote.find()) {
            quotes.add(plain(quote.group().replaceAll("(?m)^> ", "")));
        }
        return quotes;
    }

    private static void everyCallIsListed(String document, String readme) {
        List<String> due = new ArrayList<>();
        for (String section : document.split("\n## ")) {
            if (section.startsWith("Promise ") && !section.startsWith("Promise 1:")) {
                due.add(plain(itemOf(section)));
            }
        }
        Due.is("the number of calls", due.size(), 25);
        Due.is("the list of calls", String.join("\n", itemsUnder("Every call", readme)), String.join("\n", due));
    }

    private static List<String> itemsUnder(String heading, String readme) {
        List<String> items = new ArrayList<>();
        String part = first(readme, "(?s)\n### " + heading + "\n(.*?)\n###");
        for (String item : part.split("\n- ")) {
            if (item.startsWith("`")) {
                items.add(plain(item));
            }
        }
        return items;
    }

    /** What the list is to say of a promise: the call, its answer, what it drops and saves, what it throws. */
    private static String itemOf(String section) {
        String names = first(section, "(?m)^`\\w+ \\w+\\((.*?)\\)").replaceAll("\\w+ (\\w+)", "$1");
        StringBuilder item = new StringBuilder("`" + first(section, "^Promise \\d+: (\\w+)") + "(" + names + ")`:");
        item.append(' ').append(last(section, "(?m)^Returns (.*)$"));
        for (String sentence : section.split("(?<=\\.)\\s+")) {
            if (sentence.endsWith(" dropped.") || sentence.startsWith("Undoable")) {
                item.append(' ').append(sentence);
            }
        }
        Matcher thrown = Pattern.compile("(?m)^Throws .*$").matcher(section);
        while (thrown.find()) {
            item.append(' ').append(thrown.group()).append('.');
        }
        return item.toString();
    }

    private static String first(String text, String pattern) {
        Matcher found = Pattern.compile(pattern).matcher(text);
        return found.find() ? found.group(1) : "";
    }

    private static String last(String text, String pattern) {
        String last = "";
        Matcher found = Pattern.compile(pattern).matcher(text);
        while (found.find()) {
            last = found.group(1);
        }
        return last;
    }

    private static String plain(String text) {
        return text.replaceAll("\\s+", " ").trim();
    }
}
