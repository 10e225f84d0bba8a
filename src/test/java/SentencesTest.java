import java.io.IOException;
import java.nio.file.Files;
import java.nio.file.Path;
import java.util.ArrayList;
import java.util.List;
import java.util.regex.Matcher;
import java.util.regex.Pattern;
import java.util.stream.Stream;

/** Each sentence of the document is quoted by a test, so that none is left that no test holds. */
public final class SentencesTest {
    private static final Path DOCUMENT = Path.of("../shared/DOC.md");
    private static final Path TESTS = Path.of("src/test/java");
    private static final String QUOTED = "\"[^\"\\\\]*+(?:\\\\.[^\"\\\\]*+)*+\"";
    private static final Pattern QUOTE = Pattern.compile("\\bsentence\\(\\s*+(" + QUOTED + "(?:\\s*+\\+\\s*+" + QUOTED + ")*+)\\s*+\\)");
    private static final Check check = new Check("SentencesTest");

    private SentencesTest() { }

    public static void main(String[] args) throws IOException {
        List<String> quotes = quotes();
        check.due("there are quotes", quotes.size() > 100 ? 1 : 0, 1);
        String text = promised(Files.readString(DOCUMENT));
        boolean[] held = new boolean[text.length()];
        for (String quote : quotes) {
            for (int at = text.indexOf(quote); at >= 0; at = text.indexOf(quote, at + 1)) {
                java.util.Arrays.fill(held, at, at + quote.length(), true);
            }
        }
        tellTheRest(text, held);
        check.end();
    }

    /** The document without what tells nothing to test, or what FaceTest holds: headings, the face, signatures, what is not promised. */
    private static String promised(String document) {
        int end = document.indexOf("## Not promised");
        String text = end < 0 ? document : document.substring(0, end);
        text = text.replaceAll("(?s)```java.*?```", "\n");
        text = text.replaceAll("(?m)^#.*$", "").replaceAll("(?m)^[A-Z ]+$", "");
        return Check.inOneLine(text.replaceAll("(?m)^`[^`]*\\([^`]*`:", ""));
    }

    private static List<String> quotes() throws IOException {
        List<Path> files;
        try (Stream<Path> all = Files.list(TESTS)) {
            files = all.filter(p -> p.toString().endsWith("Test.java")).sorted().toList();
        }
        List<String> quotes = new ArrayList<>();
        for (Path file : files) {
            Matcher m = QUOTE.matcher(Files.readString(file));
            while (m.find()) {
                quotes.add(Check.inOneLine(joined(m.group(1))));
            }
        }
        return quotes;
    }

    private static String joined(String quoted) {
        StringBuilder words = new StringBuilder();
        Matcher m = Pattern.compile(QUOTED).matcher(quoted);
        while (m.find()) {
            words.append(m.group(), 1, m.group().length() - 1);
        }
        return words.toString().replace("\\\"", "\"");
    }

    private static void tellTheRest(String text, boolean[] held) {
        int from = 0;
        for (int at = 1; at <= text.length(); at++) {
            if (at == text.length() || held[at] != held[from]) {
                String part = text.substring(from, at);
                if (!held[from] && part.matches("(?s).*[a-zA-Z].*")) {
                    check.tell("no test quotes \"" + part.trim() + "\"");
                } else {
                    check.due(part, 1, 1);
                }
                from = at;
            }
        }
    }
}
