import java.io.IOException;
import java.nio.file.Files;
import java.nio.file.Path;
import java.util.ArrayList;
import java.util.List;
import java.util.regex.Matcher;
import java.util.regex.Pattern;
import java.util.stream.Stream;

/**
 * Every sentence of the document, from the terms to promise 58, is quoted by the test that shows it (Check.about), or is
 * listed here as one that no run of calls can show broken.
 */
public final class DocumentTest {
    private static final String[] TITLES = {"Boards and moves.", "Letters and promises.", "Passes, mules and snow.",
            "Waiting times.",
        "Texts.", "Changes and undo.", "The constants:"};
    // what a day has done can be asked only after the day, and then it is the same in each order
    private static final String[] NOT_SHOWN = {"in the order in which the letters left.",
        "3. For each pass in ascending order, first for side 0 and then for side 1:"};
    private static final Pattern ABOUT = Pattern.compile("Check\\.about\\((.*?)\\);\\R", Pattern.DOTALL);
    private static final Pattern LITERAL = Pattern.compile("\"((?:[^\"\\\\]|\\\\.)*)\"");

    public static void main(String[] args) throws IOException {
        String document = sentences(Files.readString(Path.of("../shared/DOC.md")));
        boolean[] quoted = new boolean[document.length()];
        List<String> quotes = new ArrayList<>(List.of(TITLES));
        quotes.addAll(List.of(NOT_SHOWN));
        quotes.addAll(quotesOfTheTests());
        for (String quote : quotes) {
            mark(document, quote, quoted);
        }
        for (String sentence : document.split("\n")) {
            int start = document.indexOf("\n" + sentence + "\n") + 1;
            boolean whole = true;
            for (int i = 0; i < sentence.length(); i++) {
                whole &= quoted[start + i] || !Character.isLetterOrDigit(sentence.charAt(i));
            }
            Check.same("a test quotes \"" + sentence + "\", and that", true, whole);
        }
        Check.same("sentences were found", true, document.split("\n").length > 200);
        Check.end();
    }

    /** The paragraphs from the terms to promise 58, a line each, without headings, signatures and lists of parameters. */
    private static String sentences(String text) {
        String promised = text.substring(text.indexOf("## Terms"), text.indexOf("## Not promised"));
        StringBuilder lines = new StringBuilder("\n");
        for (String paragraph : promised.split("\\n\\s*\\n")) {
            String line = paragraph.replaceAll("\\s+", " ").strip();
            if (!line.startsWith("#") && !line.startsWith("- ") && !line.startsWith("Ahead of the calls ")) {
                lines.append(line.replaceFirst("^`[^`]*\\)[^`]*`: ", "").replace("```text ", "").replace(" ```", "")).append('\n');
            }
        }
        return lines.toString();
    }

    private static List<String> quotesOfTheTests() throws IOException {
        List<String> quotes = new ArrayList<>();
        List<Path> files;
        try (Stream<Path> all = Files.list(Path.of("test"))) {
            files = all.sorted().toList();
        }
        for (Path file : files) {
            Matcher about = ABOUT.matcher(Files.readString(file).replaceAll("\"\\s*\\+\\s*\"", ""));
            while (about.find()) {
                Matcher literal = LITERAL.matcher(about.group(1));
                while (literal.find()) {
                    quotes.add(literal.group(1).replace("\\\"", "\""));
                }
            }
        }
        return quotes;
    }

    private static void mark(String document, String quote, boolean[] quoted) {
        int found = document.indexOf(quote);
        while (found >= 0 && !quote.isEmpty()) {
            java.util.Arrays.fill(quoted, found, found + quote.length(), true);
            found = document.indexOf(quote, found + 1);
        }
    }
}
