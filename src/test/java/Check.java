import java.io.IOException;
import java.nio.file.Files;
import java.nio.file.Path;

/** Counts what tests find, and tells each answer that is not the one that is due. */
final class Check {
    interface Call {
        long answer();
    }

    private static final Path DOCUMENT = Path.of("../shared/DOC.md");

    private final String name;
    private String sentence = "";
    private String document;
    private int sentences;
    private int right;
    private int wrong;

    Check(String name) {
        this.name = name;
    }

    /** What follows tests this sentence, which must stand in the document word by word. */
    void sentence(String words) {
        sentence = " [" + words + "]";
        sentences++;
        if (!document().contains(inOneLine(words))) {
            tell("no such sentence in the document");
        }
    }

    /** The whole document in one line, without the marks of code. */
    String document() {
        if (document == null) {
            document = inOneLine(read());
        }
        return document;
    }

    private static String read() {
        try {
            return Files.readString(DOCUMENT);
        } catch (IOException e) {
            return "";
        }
    }

    static String inOneLine(String text) {
        return text.replaceAll("```(text)?", " ").replace("`", "").replaceAll("\\s+", " ").trim();
    }

    void due(String what, long got, long want) {
        if (got == want) {
            right++;
        } else {
            tell(what + " answered " + got + ", due is " + want);
        }
    }

    /** Two rows of answers; tells them from where they part. */
    void same(String what, String got, String want) {
        if (got.equals(want)) {
            right++;
            return;
        }
        int at = 0;
        while (at < got.length() && at < want.length() && got.charAt(at) == want.charAt(at)) {
            at++;
        }
        tell(what + " answered ..." + part(got, at) + ", due is ..." + part(want, at));
    }

    private static String part(String answers, int at) {
        return answers.substring(Math.max(at - 30, 0), Math.min(at + 40, answers.length()));
    }

    void fails(String what, Class<? extends RuntimeException> want, Call call) {
        String got;
        try {
            got = "answered " + call.answer();
        } catch (RuntimeException e) {
            if (e.getClass() == want) {
                right++;
                return;
            }
            got = "threw " + e.getClass().getSimpleName();
        }
        tell(what + " " + got + ", due is " + want.getSimpleName());
    }

    void tell(String message) {
        wrong++;
        if (wrong <= 40) {
            System.out.println(name + sentence + ": " + message);
        }
    }

    void end() {
        String of = sentences == 0 ? "" : " to " + sentences + " sentences";
        System.out.println(name + ": " + right + " answers as due" + of + ", " + wrong + " not");
        System.exit(wrong == 0 ? 0 : 1);
    }
}
