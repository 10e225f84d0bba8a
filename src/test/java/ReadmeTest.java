import java.io.ByteArrayOutputStream;
import java.io.PrintStream;
import java.nio.charset.StandardCharsets;
import java.nio.file.Files;
import java.nio.file.Path;
import java.util.regex.Matcher;
import java.util.regex.Pattern;
import javax.tools.JavaCompiler;
import javax.tools.ToolProvider;

/** What README.md tells of the class holds: its example compiles, runs, and each remark on an answer is right. */
public final class ReadmeTest {
    private static final Check check = new Check("ReadmeTest");

    private ReadmeTest() { }

    public static void main(String[] args) throws Exception {
        String readme = Files.readString(Path.of("README.md"));
        Matcher m = Pattern.compile("(?s)```java\n(.*?)```").matcher(readme);
        check.due("examples", m.find() ? 1 : 0, 1);
        String example = m.group(1);
        check.same("what the example prints", run(example), "2 tents\na size is 1 to 40\n");
        String remarks = numbers(example, "// (\\d+)");
        check.due("remarks that tell an answer", remarks.split(" ").length, 6);
        check.same("answers", numbers(run(answering(example)), "<(-?\\d+)>"), remarks);
        for (String needed : new String[] {"javac -d out src/main/java/TentCamp.java", "../shared/DOC.md", "../shared/LANGUAGE.md",
            "bash .ci/run", " 512 calls"}) {
            check.due("README.md tells " + needed, readme.contains(needed) ? 1 : 0, 1);
        }
        tests(readme);
        check.end();
    }

    /** Behind each call with a remark that begins with a number its answer is printed. */
    private static String answering(String example) {
        String printed = example.replaceAll("(?m)^( *)(?:int (\\w+) = )(camp\\.\\w+\\([^;]*\\));( +// \\d.*)$",
            "$1int $2 = $3; System.out.print(\"<\" + $2 + \">\");$4");
        return printed.replaceAll("(?m)^( *)((?:camp|other)\\.\\w+\\([^;]*\\));( +// \\d.*)$",
            "$1System.out.print(\"<\" + $2 + \">\");$3");
    }

    private static String numbers(String text, String pattern) {
        StringBuilder numbers = new StringBuilder();
        Matcher m = Pattern.compile(pattern).matcher(text);
        while (m.find()) {
            numbers.append(m.group(1)).append(' ');
        }
        return numbers.toString();
    }

    private static String run(String example) throws Exception {
        Path folder = Files.createTempDirectory("readme");
        Path file = folder.resolve("Example.java");
        Files.writeString(file, example);
        JavaCompiler compiler = ToolProvider.getSystemJavaCompiler();
        int code = compiler.run(null, null, null, "-d", folder.toString(), file.toString(), "src/main/java/TentCamp.java");
        check.due("the example compiles", code, 0);
        PrintStream before = System.out;
        ByteArrayOutputStream printed = new ByteArrayOutputStream();
        try (java.net.URLClassLoader loader = new java.net.URLClassLoader(new java.net.URL[] {folder.toUri().toURL()}, null)) {
            System.setOut(new PrintStream(printed, true, StandardCharsets.UTF_8));
            loader.loadClass("Example").getMethod("main", String[].class).invoke(null, (Object) new String[0]);
        } finally {
            System.setOut(before);
            clear(folder);
        }
        return printed.toString(StandardCharsets.UTF_8).replace(System.lineSeparator(), "\n");
    }

    private static void clear(Path folder) throws Exception {
        try (var files = Files.list(folder)) {
            for (Path file : files.toList()) {
                Files.delete(file);
            }
        }
        Files.delete(folder);
    }

    /** Each test that there is stands in README.md. */
    private static void tests(String readme) throws Exception {
        try (var files = Files.list(Path.of("src/test/java"))) {
            for (Path file : files.toList()) {
                String name = file.getFileName().toString().replace(".java", "");
                if (name.endsWith("Test")) {
                    check.due("README.md tells of " + name, readme.contains(name) ? 1 : 0, 1);
                }
            }
        }
    }
}
