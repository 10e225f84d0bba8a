import java.lang.reflect.Constructor;
import java.lang.reflect.Field;
import java.lang.reflect.Method;
import java.lang.reflect.Modifier;
import java.nio.file.Files;
import java.nio.file.Path;
import java.util.ArrayList;
import java.util.List;
import java.util.Set;
import java.util.TreeSet;
import java.util.regex.Matcher;
import java.util.regex.Pattern;

/** The face is the document's, and the source keeps to the rules of LANGUAGE.md that a look at it can find. */
public final class FaceTest {
    private static final Path SOURCE = Path.of("src/main/java/TentCamp.java");
    private static final Path DOCUMENT = Path.of("../shared/DOC.md");
    private static final Check check = new Check("FaceTest");

    private FaceTest() { }

    public static void main(String[] args) throws Exception {
        face();
        promises();
        nested();
        source();
        room();
        check.end();
    }

    private static void right(String what, boolean is) {
        check.due(what, is ? 1 : 0, 1);
    }

    private static void face() throws Exception {
        Class<TentCamp> c = TentCamp.class;
        right("public and final", Modifier.isPublic(c.getModifiers()) && Modifier.isFinal(c.getModifiers()));
        Set<String> due = new TreeSet<>();
        String doc = Files.readString(DOCUMENT);
        Matcher m = Pattern.compile("    public int (\\w+)\\(([^)]*)\\)( throws ([\\w, ]+))?;").matcher(doc);
        while (m.find()) {
            String types = m.group(2).replaceAll(" \\w+(,|$)", "$1").replace(" ", "");
            due.add("int " + m.group(1) + "(" + types + ") " + (m.group(4) == null ? "" : m.group(4).replace(" ", "")));
        }
        check.due("methods of the document", due.size(), 25);
        Set<String> got = new TreeSet<>();
        Set<String> names = new TreeSet<>();
        for (Method method : c.getDeclaredMethods()) {
            if (Modifier.isPublic(method.getModifiers())) {
                names.add(method.getName());
                got.add(method.getReturnType() + " " + method.getName() + "(" + simple(method.getParameterTypes()) + ") "
                    + simple(method.getExceptionTypes()));
            } else {
                right(method + " is private", Modifier.isPrivate(method.getModifiers()));
            }
        }
        right("the methods are " + due + ", they were " + got, got.equals(due));
        for (Method method : c.getDeclaredMethods()) {
            right(method + " has a name of its own",
                Modifier.isPublic(method.getModifiers()) || !names.contains(method.getName()));
        }
        for (Field field : c.getDeclaredFields()) {
            boolean isPublic = field.getName().equals("NONE");
            right(field + "", isPublic ? Modifier.isPublic(field.getModifiers()) : Modifier.isPrivate(field.getModifiers()));
            right(field + " is final or no static one", !Modifier.isStatic(field.getModifiers()) || Modifier.isFinal(field.getModifiers()));
        }
        Constructor<?>[] constructors = c.getDeclaredConstructors();
        right("one public constructor", constructors.length == 1 && Modifier.isPublic(constructors[0].getModifiers())
            && constructors[0].getParameterCount() == 0);
    }

    /** The promises are 26, in the order of the face, and each has the signature that the face has. */
    private static void promises() throws Exception {
        String doc = Files.readString(DOCUMENT);
        List<String> inFace = new ArrayList<>();
        Matcher lines = Pattern.compile("(?m)^    public ([^=\\n]*\\([^=\\n]*);").matcher(doc);
        while (lines.find()) {
            inFace.add(lines.group(1));
        }
        List<String> promised = new ArrayList<>();
        Matcher heads = Pattern.compile("(?m)^## Promise (\\d+): (.*)\\n\\n`([^`]*)`:").matcher(doc);
        while (heads.find()) {
            promised.add(heads.group(3));
            check.due("number of " + heads.group(2), Integer.parseInt(heads.group(1)), promised.size());
            right(heads.group(2) + " heads " + heads.group(3),
                promised.size() == 1 || heads.group(3).startsWith("int " + heads.group(2) + "("));
        }
        check.due("promises", promised.size(), 26);
        check.same("signatures", String.join("; ", inFace), String.join("; ", promised));
    }

    private static String simple(Class<?>[] types) {
        List<String> names = new ArrayList<>();
        for (Class<?> type : types) {
            names.add(type.getSimpleName());
        }
        return String.join(",", names);
    }

    private static void nested() {
        Class<?>[] inside = TentCamp.class.getDeclaredClasses();
        right("some twelve classes", inside.length <= 12);
        for (Class<?> c : inside) {
            right(c + " is static", Modifier.isStatic(c.getModifiers()));
            right(c + " is not public", !Modifier.isPublic(c.getModifiers()) && !Modifier.isProtected(c.getModifiers()));
            int fields = 0;
            for (Field field : c.getDeclaredFields()) {
                right(field + " is final or no static one", !Modifier.isStatic(field.getModifiers()) || Modifier.isFinal(field.getModifiers()));
                fields += Modifier.isStatic(field.getModifiers()) ? 0 : 1;
            }
            right(c + " has some twenty fields", fields <= 20);
            for (Method method : c.getDeclaredMethods()) {
                right(method + " has seven parameters", method.getParameterCount() <= 7);
                right(method + " is not public", !Modifier.isPublic(method.getModifiers()));
            }
        }
    }

    private static void source() throws Exception {
        String text = Files.readString(SOURCE);
        right("characters 1 to 127", text.chars().allMatch(c -> c < 128));
        String code = text.replaceAll("(?s)/\\*.*?\\*/", "").replaceAll("//[^\n]*", "").replaceAll("\"[^\"\n]*\"", "\"\"");
        String[] words = {"package", "finally", "synchronized", "assert", "Exact", "native", "Random", "nanoTime", "currentTime", "Thread",
            "hashCode", "getMessage"};
        for (String word : words) {
            right("no " + word, !Pattern.compile("\\b" + word + "|" + word + "\\b").matcher(code).find());
        }
        right("no lambda", !code.replaceAll("(case [^;{}]*|default *)->", "").contains("->"));
        right("no method reference", !code.contains("::"));
        library(code);
        Matcher caught = Pattern.compile("catch \\(([^)]*)\\)").matcher(code);
        String machine = ".*(ArrayIndex|NullPointer|ClassCast|NegativeArray|ArrayStore|\\bException|Throwable|Error).*";
        while (caught.find()) {
            right("what the machine throws is not caught: " + caught.group(1), !caught.group(1).matches(machine));
        }
        Matcher thrown = Pattern.compile("throw (\\w+ \\w+)").matcher(code);
        Set<String> exceptions = Set.of("new IllegalArgumentException", "new IllegalStateException", "new IndexOutOfBoundsException",
            "new ArithmeticException", "new UnsupportedOperationException", "new NoSuchElementException", "new RuntimeException");
        while (thrown.find()) {
            right(thrown.group(), exceptions.contains(thrown.group(1)));
        }
    }

    /** Only what rule 4 lists is called by the name of its class, and imported. */
    private static void library(String code) {
        Set<String> numbers = Set.of("compare", "compareUnsigned", "max", "min", "abs", "bitCount", "floorDiv", "floorMod", "signum", "sum",
            "numberOfLeadingZeros", "numberOfTrailingZeros", "highestOneBit", "lowestOneBit", "divideUnsigned", "remainderUnsigned",
            "rotateLeft", "rotateRight", "reverse", "MAX_VALUE", "MIN_VALUE");
        Matcher calls = Pattern.compile("\\b(System|Arrays|List|Math|Integer|Long|String|Character|Objects|Collections)\\.(\\w+)").matcher(code);
        while (calls.find()) {
            String name = calls.group(2);
            boolean listed = switch (calls.group(1)) {
                case "System" -> name.equals("arraycopy");
                case "Arrays" -> name.equals("copyOf") || name.equals("copyOfRange") || name.equals("fill");
                case "List" -> name.equals("of");
                case "Math", "Integer", "Long" -> numbers.contains(name);
                default -> false;
            };
            right(calls.group() + " is of the library", listed);
        }
        Set<String> classes = Set.of("ArrayList", "List", "Iterator", "Arrays", "NoSuchElementException");
        Matcher imports = Pattern.compile("import ([\\w.*]+);").matcher(code);
        while (imports.find()) {
            String name = imports.group(1);
            right(name + " is of the library", name.startsWith("java.util.") && classes.contains(name.substring(10)));
        }
    }

    /** 512 calls, the dearest again and again, stay within the room that all objects and arrays of a run have. */
    private static void room() {
        java.lang.management.ThreadMXBean bean = java.lang.management.ManagementFactory.getThreadMXBean();
        if (!(bean instanceof com.sun.management.ThreadMXBean threads)) {
            return;
        }
        long before = threads.getCurrentThreadAllocatedBytes();
        TentCamp camp = new TentCamp();
        for (char c : "T08128eeep408p011p058p202l".toCharArray()) {
            camp.append(c);
        }
        int sum = dear(camp);
        long made = threads.getCurrentThreadAllocatedBytes() - before;
        // 7.3 million fields and elements of 4 bytes each.
        right("a run of 512 calls made " + made + " bytes", made < 7300000L * 4 && sum != 0);
    }

    private static int dear(TentCamp camp) {
        int sum = 0;
        for (int i = 0; i < 30; i++) {
            sum += camp.load() + camp.enter() + camp.pitch(3, 1) + camp.fill(0, 9) + camp.set(1, 0) + camp.jump(0) + camp.undo();
            sum += camp.save(0) + camp.restore(0) + camp.bestSize() + camp.more(1, 1) + camp.simulate(i, 99);
            sum += camp.runScript(3, 100112000120000L) + camp.givenUp(0) + camp.spare(0) + camp.about(7);
        }
        return sum;
    }
}
