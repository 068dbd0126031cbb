import java.io.IOException;
import java.lang.reflect.Constructor;
import java.lang.reflect.Field;
import java.lang.reflect.Method;
import java.lang.reflect.Modifier;
import java.nio.charset.StandardCharsets;
import java.nio.file.Files;
import java.nio.file.Path;
import java.util.ArrayList;
import java.util.Arrays;
import java.util.List;
import java.util.Set;
import java.util.TreeSet;
import java.util.regex.Matcher;
import java.util.regex.Pattern;

/** The public face of the document, and what a test can see of the rules of ../shared/LANGUAGE.md. */
public final class FaceTests {
    private static final String FACE = "at(int,int)IndexOutOfBoundsException,IllegalArgumentException"
            + " append(int)IllegalArgumentException,IllegalStateException bestRule() bestStack()"
            + " cancel(int)IndexOutOfBoundsException choice(int)IndexOutOfBoundsException clearBuffer()"
            + " coil(int,int)IndexOutOfBoundsException,IllegalArgumentException"
            + " count(int)IllegalArgumentException dig(int)IndexOutOfBoundsException,IllegalStateException"
            + " digest()long firstError()"
            + " ifServed(int,int,int)IndexOutOfBoundsException,IllegalArgumentException"
            + " move(int,int)IndexOutOfBoundsException,IllegalArgumentException,IllegalStateException"
            + " order(int,int,int,int,int)IllegalArgumentException,IllegalStateException"
            + " orderOf(int,int)IllegalArgumentException"
            + " receive(int,int,int,int)IndexOutOfBoundsException,IllegalArgumentException,IllegalStateException"
            + " receiveAll()IllegalArgumentException"
            + " sendAway(int)IndexOutOfBoundsException,IllegalStateException"
            + " serve(int)IndexOutOfBoundsException serveAll()"
            + " set(int,int)IndexOutOfBoundsException,IllegalArgumentException"
            + " setting(int)IndexOutOfBoundsException"
            + " slit(int,int)IndexOutOfBoundsException,IllegalStateException undo()IllegalStateException"
            + " used()double whyNot(int,int)IndexOutOfBoundsException";
    private static final String[] RULED_OUT = {"^import ", "^package ", "->", "::", "\\btry\\b", "\\bcatch\\b",
        "\\bfinally\\b", "\\bsynchronized\\b", "\\bassert\\b", "\\binstanceof\\b", "Exact\\(", "\"\\s*\\+", "\\+\\s*\"",
        "\\bDouble\\b", "\\bFloat\\b", "\\bSystem\\.(?!arraycopy)", "\\bMath\\.(?!(abs|max|min)\\()", "@"};

    private static int failed = 0;

    public static void main(String[] args) throws IOException {
        test("The public face: just the methods of the document", methodsAreAsDue());
        test("The public face: just the constant and the constructor of the document", restIsAsDue());
        test("The public face: no inner method bears the name of one of the face", innerNamesDiffer());
        String source = args.length > 0 ? args[0] : "src/main/java/CoilSlits.java";
        String text = new String(Files.readAllBytes(Path.of(source)), StandardCharsets.ISO_8859_1);
        test("LANGUAGE.md: nothing that is ruled out", nothingRuledOut(text));
        test("LANGUAGE.md: methods of at most 60 lines", methodsAreShort(text));
        if (failed != 0) {
            System.exit(1);
        }
    }

    private static void test(String name, boolean passed) {
        System.out.println((passed ? "PASS " : "FAIL ") + name);
        failed += passed ? 0 : 1;
    }

    private static String names(Class<?>[] classes) {
        List<String> names = new ArrayList<>();
        for (Class<?> c : classes) {
            names.add(c.getSimpleName());
        }
        return String.join(",", names);
    }

    private static boolean methodsAreAsDue() {
        Set<String> face = new TreeSet<>();
        for (Method m : CoilSlits.class.getDeclaredMethods()) {
            if (!Modifier.isPrivate(m.getModifiers()) && !m.isSynthetic()) {
                String returns = m.getReturnType() == int.class ? "" : m.getReturnType().getSimpleName();
                String form = m.getName() + "(" + names(m.getParameterTypes()) + ")" + returns
                        + names(m.getExceptionTypes());
                boolean plain = m.getModifiers() == Modifier.PUBLIC;
                face.add(plain ? form : "not public alone: " + form);
            }
        }
        Set<String> due = new TreeSet<>(Arrays.asList(FACE.split(" ")));
        if (!face.equals(due)) {
            System.out.println("  " + face);
            System.out.println("  due " + due);
        }
        return face.equals(due);
    }

    private static boolean restIsAsDue() {
        boolean right = CoilSlits.class.getModifiers() == (Modifier.PUBLIC | Modifier.FINAL);
        for (Field f : CoilSlits.class.getDeclaredFields()) {
            boolean isNone = f.getName().equals("NONE") && f.getType() == int.class
                    && f.getModifiers() == (Modifier.PUBLIC | Modifier.STATIC | Modifier.FINAL);
            right &= isNone || Modifier.isPrivate(f.getModifiers());
        }
        Constructor<?>[] constructors = CoilSlits.class.getDeclaredConstructors();
        right &= constructors.length == 1 && constructors[0].getParameterCount() == 0
                && Modifier.isPublic(constructors[0].getModifiers());
        for (Class<?> inner : CoilSlits.class.getDeclaredClasses()) {
            right &= Modifier.isStatic(inner.getModifiers()) && !Modifier.isPublic(inner.getModifiers());
        }
        return right;
    }

    private static boolean innerNamesDiffer() {
        Set<String> face = new TreeSet<>();
        List<Method> others = new ArrayList<>();
        for (Method m : CoilSlits.class.getDeclaredMethods()) {
            if (Modifier.isPrivate(m.getModifiers())) {
                others.add(m);
            } else {
                face.add(m.getName());
            }
        }
        for (Class<?> inner : CoilSlits.class.getDeclaredClasses()) {
            others.addAll(Arrays.asList(inner.getDeclaredMethods()));
        }
        boolean differ = true;
        for (Method m : others) {
            if (face.contains(m.getName())) {
                System.out.println("  " + m);
                differ = false;
            }
        }
        return differ;
    }

    private static boolean nothingRuledOut(String text) {
        String code = Pattern.compile("//[^\\n]*|/\\*.*?\\*/", Pattern.DOTALL).matcher(text).replaceAll("");
        boolean right = text.chars().allMatch(c -> c < 127);
        for (String pattern : RULED_OUT) {
            Matcher matcher = Pattern.compile(pattern, Pattern.MULTILINE).matcher(code);
            if (matcher.find()) {
                System.out.println("  ruled out: " + matcher.group());
                right = false;
            }
        }
        return right;
    }

    /** Goes by the layout of the source: a method's closing brace stands as deep as its first line. */
    private static boolean methodsAreShort(String text) {
        String[] lines = text.split("\n");
        Pattern head = Pattern.compile("^( {4}| {8})[A-Za-z][^=;]*\\([^;]*\\{$");
        boolean right = true;
        for (int i = 0; i < lines.length; i++) {
            Matcher matcher = head.matcher(lines[i]);
            if (matcher.find() && !lines[i].contains(" class ")) {
                int end = i;
                while (end < lines.length && !lines[end].equals(matcher.group(1) + "}")) {
                    end++;
                }
                right &= end - i < 60;
            }
        }
        return right;
    }
}
