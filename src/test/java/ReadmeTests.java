import java.io.IOException;
import java.io.StringWriter;
import java.lang.reflect.Method;
import java.lang.reflect.Modifier;
import java.net.URL;
import java.net.URLClassLoader;
import java.nio.charset.StandardCharsets;
import java.nio.file.Files;
import java.nio.file.Path;
import java.util.ArrayList;
import java.util.Arrays;
import java.util.Comparator;
import java.util.List;
import java.util.Map;
import java.util.Set;
import java.util.TreeMap;
import java.util.TreeSet;
import java.util.regex.Matcher;
import java.util.regex.Pattern;
import java.util.stream.Stream;
import javax.tools.JavaCompiler;
import javax.tools.StandardJavaFileManager;
import javax.tools.ToolProvider;

/** The calls that README.md shows, with the answers that it shows, and its table of exceptions. */
public final class ReadmeTests extends Checks {
    // A call, perhaps the variable that keeps its answer, and the answer in the comment behind it.
    private static final Pattern CALL = Pattern.compile(
            "^(?:(?:int|long|double) (\\w+) = )?(yard\\.(\\w+)\\(.*\\)); +// ([^:]+)(?:: .+)?$");
    private static final Pattern ANSWER = Pattern.compile("-?\\d+(\\.\\d+)?|NONE|throws [A-Za-z]+");
    private static final String[] EXAMPLES =
        {"Making an object", "Coils", "Orders", "Texts", "Looks", "What would be"};
    private static final String[] EXCEPTIONS =
        {"IndexOutOfBoundsException", "IllegalArgumentException", "IllegalStateException"};

    private static String[] lines;

    public static void main(String[] args) throws IOException {
        lines = new String(Files.readAllBytes(Path.of("README.md")), StandardCharsets.UTF_8).split("\n");
        for (String part : EXAMPLES) {
            test("README.md: the calls of '" + part + "' answer as it shows", () -> answersAsShown(part));
        }
        test("README.md: a wrong answer in it would be found", ReadmeTests::wrongAnswersAreFound);
        test("README.md: each method of the face is called in it", ReadmeTests::eachMethodIsCalled);
        test("README.md: each method of the face is told of, with its arguments", ReadmeTests::eachMethodIsTold);
        test("README.md: the table of exceptions is that of the face", ReadmeTests::exceptionsAsInFace);
        test("README.md: what undo takes back", ReadmeTests::undoableAsNamed);
        test("README.md: NONE, 512 calls, and calls that throw are told of", ReadmeTests::restIsTold);
        test("README.md: the test programs are those that are there", ReadmeTests::programsAreThere);
        finish();
    }

    // ---- the examples

    private static void answersAsShown(String part) {
        List<String> example = example(part);
        same("lines of the example, at least two", 1, example.size() >= 2 ? 1 : 0);
        for (String wrong : run(programOf(example))) {
            fault(wrong);
        }
    }

    /** The test of the tests: each answer in each example is made a wrong one, all at once. */
    private static void wrongAnswersAreFound() {
        for (String part : EXAMPLES) {
            List<String> example = example(part);
            List<String> changed = new ArrayList<>();
            int answers = 0;
            for (String line : example) {
                Matcher call = CALL.matcher(line);
                if (call.matches()) {
                    answers++;
                    String other = call.group(4).startsWith("throws") ? "throws ArithmeticException" : "-77";
                    changed.add(line.substring(0, call.start(4)) + other);
                } else {
                    changed.add(line);
                }
            }
            same("wrong answers found in '" + part + "'", answers, run(programOf(changed)).size());
        }
    }

    /** The lines of the code in a part of the page. */
    private static List<String> example(String part) {
        List<String> example = new ArrayList<>();
        boolean here = false;
        boolean code = false;
        for (String line : lines) {
            if (line.startsWith("#")) {
                here = line.equals("### " + part);
            } else if (line.startsWith("```")) {
                code = line.equals("```java");
            } else if (here && code) {
                example.add(line);
            }
        }
        return example;
    }

    /** A program that does what the example does, and lists the answers that are not as shown. */
    private static String programOf(List<String> example) {
        StringBuilder program = new StringBuilder();
        program.append("public final class Example {\n")
                .append("static void same(java.util.List<String> wrong, String call, long due, long got) {\n")
                .append("if (due != got) wrong.add(call + \" answered \" + got + \", shown is \" + due); }\n")
                .append("static void same(java.util.List<String> wrong, String call, double due, double got) {\n")
                .append("if (due != got) wrong.add(call + \" answered \" + got + \", shown is \" + due); }\n")
                .append("public static java.util.List<String> wrongAnswers() {\n")
                .append("java.util.List<String> wrong = new java.util.ArrayList<>();\n");
        for (String line : example) {
            program.append(programLine(line)).append('\n');
        }
        return program.append("return wrong; } }\n").toString();
    }

    private static String programLine(String line) {
        Matcher call = CALL.matcher(line);
        if (!call.matches()) {
            // Lines that stand deeper belong to a loop, which has no one answer to show.
            boolean plain = line.startsWith(" ") || !line.contains("yard.");
            return plain ? line : "wrong.add(\"no answer is shown: \" + " + quoted(line) + ");";
        }
        String shown = call.group(4);
        String quoted = quoted(call.group(2));
        if (!ANSWER.matcher(shown).matches()) {
            return "wrong.add(" + quoted + " + \" shows no answer\");";
        }
        if (shown.startsWith("throws ")) {
            return "try { " + call.group(2) + "; wrong.add(" + quoted + " + \" does not throw\"); }"
                    + " catch (RuntimeException e) { if (!e.getClass().getSimpleName().equals(\""
                    + shown.substring(7) + "\")) wrong.add(" + quoted + " + \" throws \" + e); }";
        }
        String due = shown.equals("NONE") ? "CoilSlits.NONE" : shown.contains(".") ? shown : shown + "L";
        String got = call.group(1) == null ? call.group(2) : call.group(1);
        String keep = call.group(1) == null ? "" : line.substring(0, call.end(2)) + "; ";
        return keep + "same(wrong, " + quoted + ", " + due + ", " + got + ");";
    }

    private static String quoted(String text) {
        return "\"" + text.replace("\\", "\\\\").replace("\"", "\\\"") + "\"";
    }

    /** Compiles and runs a program, and answers what it lists. */
    private static List<String> run(String program) {
        try {
            Path folder = Files.createTempDirectory("readme");
            try {
                return runIn(folder, program);
            } finally {
                removeAll(folder);
            }
        } catch (IOException | ReflectiveOperationException e) {
            return List.of("the example cannot be run: " + e);
        }
    }

    private static List<String> runIn(Path folder, String program)
            throws IOException, ReflectiveOperationException {
        Path source = folder.resolve("Example.java");
        Files.write(source, program.getBytes(StandardCharsets.UTF_8));
        StringWriter said = new StringWriter();
        JavaCompiler compiler = ToolProvider.getSystemJavaCompiler();
        try (StandardJavaFileManager files = compiler.getStandardFileManager(null, null, null)) {
            List<String> options = Arrays.asList("-proc:none", "-d", folder.toString(),
                    "-cp", System.getProperty("java.class.path"));
            if (!compiler.getTask(said, files, null, options, null, files.getJavaFileObjects(source)).call()) {
                return List.of("the example does not compile: " + said);
            }
        }
        List<String> wrong = new ArrayList<>();
        try (URLClassLoader loader = new URLClassLoader(new URL[] {folder.toUri().toURL()},
                ReadmeTests.class.getClassLoader())) {
            Object list = loader.loadClass("Example").getMethod("wrongAnswers").invoke(null);
            for (Object line : (List<?>) list) {
                wrong.add(line.toString());
            }
        }
        return wrong;
    }

    private static void removeAll(Path folder) throws IOException {
        try (Stream<Path> all = Files.walk(folder)) {
            for (Path path : all.sorted(Comparator.reverseOrder()).toArray(Path[]::new)) {
                Files.delete(path);
            }
        }
    }

    // ---- what the page says of the face

    /** The methods of the face, each with the exceptions that it throws. */
    private static Map<String, List<String>> face() {
        Map<String, List<String>> face = new TreeMap<>();
        for (Method method : CoilSlits.class.getDeclaredMethods()) {
            if (Modifier.isPublic(method.getModifiers())) {
                List<String> thrown = new ArrayList<>();
                for (Class<?> exception : method.getExceptionTypes()) {
                    thrown.add(exception.getSimpleName());
                }
                face.put(method.getName(), thrown);
            }
        }
        return face;
    }

    private static void eachMethodIsCalled() {
        Set<String> called = new TreeSet<>();
        for (String part : EXAMPLES) {
            for (String line : example(part)) {
                Matcher call = Pattern.compile("yard\\.(\\w+)\\(").matcher(line);
                while (call.find()) {
                    called.add(call.group(1));
                }
            }
        }
        sameNames("methods that are called", face().keySet(), called);
    }

    private static void eachMethodIsTold() {
        Set<String> told = new TreeSet<>();
        for (String line : lines) {
            Matcher item = Pattern.compile("^- `(\\w+)\\(([^)]*)\\)`").matcher(line);
            if (item.find()) {
                int arguments = item.group(2).isEmpty() ? 0 : item.group(2).split(",").length;
                told.add(item.group(1) + " with " + arguments);
            }
        }
        Set<String> due = new TreeSet<>();
        for (Method method : CoilSlits.class.getDeclaredMethods()) {
            if (Modifier.isPublic(method.getModifiers())) {
                due.add(method.getName() + " with " + method.getParameterCount());
            }
        }
        sameNames("methods that are told of", due, told);
    }

    private static void exceptionsAsInFace() {
        Map<String, List<String>> table = new TreeMap<>();
        for (String line : lines) {
            String[] cells = line.split("\\|", -1);
            if (!line.startsWith("| `") || cells.length != 6) {
                continue;
            }
            List<String> thrown = new ArrayList<>();
            for (int i = 0; i < EXCEPTIONS.length; i++) {
                if (!cells[i + 2].trim().isEmpty()) {
                    thrown.add(EXCEPTIONS[i]);
                }
            }
            table.put(cells[1].trim().replace("`", ""), thrown);
        }
        for (String name : namesAhead(" throw none.")) {
            table.put(name, new ArrayList<>());
        }
        sameNames("methods of the table", face().keySet(), table.keySet());
        for (Map.Entry<String, List<String>> method : face().entrySet()) {
            if (!method.getValue().equals(table.get(method.getKey()))) {
                fault(method.getKey() + " is told to throw " + table.get(method.getKey())
                        + ", the face says " + method.getValue());
            }
        }
    }

    private static void undoableAsNamed() {
        sameNames("calls that can be taken back", new TreeSet<>(Arrays.asList("receive", "move", "dig",
                "sendAway", "order", "cancel", "slit", "serve", "serveAll", "set", "receiveAll")),
                namesAhead(" can be taken back,"));
    }

    /** The names in the sentence that has these words; it begins with a paragraph. */
    private static Set<String> namesAhead(String words) {
        String page = String.join("\n", lines);
        int end = page.indexOf(words);
        Set<String> names = new TreeSet<>();
        if (end >= 0) {
            Matcher name = Pattern.compile("`(\\w+)`").matcher(page.substring(page.lastIndexOf("\n\n", end), end));
            while (name.find()) {
                names.add(name.group(1));
            }
        }
        return names;
    }

    private static void restIsTold() {
        String page = String.join(" ", lines);
        String[] told = {"`CoilSlits.NONE`, which is -1, means: there is nothing to return.",
            "An object is used for at most 512 calls after it has been made.",
            "A call that throws changes nothing", "`.ci/run`", "java -cp build EdgeTests", "JDK 17"};
        for (String words : told) {
            same("README.md says: " + words, 1, page.contains(words) ? 1 : 0);
        }
        same("NONE", -1, CoilSlits.NONE);
    }

    private static void programsAreThere() {
        Set<String> named = new TreeSet<>();
        Set<String> there = new TreeSet<>();
        for (String line : lines) {
            Matcher name = Pattern.compile("`src/test/java/(\\w+\\.java)`").matcher(line);
            while (name.find()) {
                named.add(name.group(1));
            }
        }
        String[] files = Path.of("src/test/java").toFile().list();
        for (String file : files == null ? new String[0] : files) {
            there.add(file);
        }
        sameNames("test programs", there, named);
    }

    private static void sameNames(String what, Set<String> due, Set<String> got) {
        if (!due.equals(got)) {
            fault(what + ": " + got + ", due are " + due);
        }
    }
}
