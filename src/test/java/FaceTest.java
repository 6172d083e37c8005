import java.lang.reflect.Constructor;
import java.lang.reflect.Field;
import java.lang.reflect.Member;
import java.lang.reflect.Method;
import java.lang.reflect.Modifier;
import java.net.URL;
import java.net.URLClassLoader;
import java.nio.file.Files;
import java.nio.file.Path;
import java.util.Arrays;
import java.util.Set;
import java.util.TreeSet;
import java.util.regex.Matcher;
import java.util.regex.Pattern;
import java.util.stream.Collectors;

/**
 * The class has the face that the document shows, with the exceptions that it names, and no other; and the
 * example in README.md compiles as it stands there and answers what its comments say. Both files are looked for
 * from the project's root.
 */
public final class FaceTest {
    private static final Path DOCUMENT = Path.of("../shared/DOC.md");
    private static final Path README = Path.of("README.md");
    private static final Pattern FACE =
            Pattern.compile("\\s+public (?:(\\w+) )?(\\w+)\\(([^)]*)\\)(?: throws ([\\w, ]+))?;");
    private static final Pattern ANSWER = Pattern.compile("int (\\w+) = .*; *// (-?\\d+),.*");

    private static int wrong;

    public static void main(String[] args) throws Exception {
        faceIsThatOfTheDocument();
        nothingElseIsSeen();
        exampleHolds();
        System.out.println("the face and the example: " + wrong + " not as due");
        if (wrong != 0) {
            System.exit(1);
        }
    }

    private static void check(boolean holds, String text) {
        if (!holds) {
            wrong++;
            System.out.println(text);
        }
    }

    /** The first Java block of a text behind these words. */
    private static String block(Path file, String heading) throws Exception {
        String text = Files.readString(file);
        int at = text.indexOf("```java\n", text.indexOf(heading)) + 8;
        return text.substring(at, text.indexOf("```", at));
    }

    private static void faceIsThatOfTheDocument() throws Exception {
        Set<String> due = new TreeSet<>();
        for (String line : block(DOCUMENT, "## The public face").split("\n")) {
            Matcher matcher = FACE.matcher(line);
            if (matcher.matches()) {
                due.add(told(matcher));
            }
        }
        Set<String> got = new TreeSet<>();
        for (Constructor<?> constructor : KeyStage.class.getConstructors()) {
            got.add(told("", "KeyStage", constructor.getParameterTypes(), constructor.getExceptionTypes()));
        }
        for (Method method : KeyStage.class.getDeclaredMethods()) {
            if (Modifier.isPublic(method.getModifiers())) {
                check(!Modifier.isStatic(method.getModifiers()), method + " is static");
                got.add(told(method.getReturnType().getSimpleName(), method.getName(),
                        method.getParameterTypes(), method.getExceptionTypes()));
            }
        }
        check(due.size() == 28, "the document shows " + due.size() + " constructors and methods, not 28");
        for (String member : due) {
            check(got.contains(member), "the face lacks " + member);
        }
        for (String member : got) {
            check(due.contains(member), "the face has " + member + ", which the document does not show");
        }
    }

    private static String told(Matcher matcher) {
        String answer = matcher.group(1) == null ? "" : matcher.group(1);
        String parameters = matcher.group(3).replaceAll(" \\w+(,|$)", "$1");
        String thrown = matcher.group(4) == null ? "" : matcher.group(4);
        return answer + " " + matcher.group(2) + "(" + parameters + ") " + thrown;
    }

    private static String told(String answer, String name, Class<?>[] parameters, Class<?>[] thrown) {
        return answer + " " + name + "(" + names(parameters) + ") " + names(thrown);
    }

    private static String names(Class<?>[] classes) {
        return Arrays.stream(classes).map(Class::getSimpleName).collect(Collectors.joining(", "));
    }

    private static void nothingElseIsSeen() {
        int modifiers = KeyStage.class.getModifiers();
        check(Modifier.isPublic(modifiers) && Modifier.isFinal(modifiers), "the class is not public and final");
        Set<String> open = new TreeSet<>();
        for (Method method : KeyStage.class.getDeclaredMethods()) {
            if (Modifier.isPublic(method.getModifiers())) {
                open.add(method.getName());
            }
        }
        for (Method method : KeyStage.class.getDeclaredMethods()) {
            if (!Modifier.isPublic(method.getModifiers()) && !method.isSynthetic()) {
                isHidden(method);
                check(!open.contains(method.getName()), method + " bears the name of a public one");
            }
        }
        for (Constructor<?> constructor : KeyStage.class.getDeclaredConstructors()) {
            check(Modifier.isPublic(constructor.getModifiers()), constructor + " is not public");
        }
        for (Field field : KeyStage.class.getDeclaredFields()) {
            isHidden(field);
            check(!Modifier.isStatic(field.getModifiers()) || Modifier.isFinal(field.getModifiers()),
                    field + " is static and not final");
        }
        for (Class<?> inside : KeyStage.class.getDeclaredClasses()) {
            check(Modifier.isStatic(inside.getModifiers()) && !Modifier.isPublic(inside.getModifiers())
                    && !Modifier.isProtected(inside.getModifiers()), inside + " is seen or not static");
        }
    }

    private static void isHidden(Member member) {
        check(Modifier.isPrivate(member.getModifiers()) || member.isSynthetic(), member + " is not private");
    }

    private static void exampleHolds() throws Exception {
        StringBuilder source = new StringBuilder("public final class Example {\n    public static int[] run() {\n");
        StringBuilder answers = new StringBuilder();
        StringBuilder due = new StringBuilder();
        for (String line : block(README, "## Use").split("\n")) {
            source.append(line).append('\n');
            Matcher matcher = ANSWER.matcher(line);
            if (matcher.matches()) {
                answers.append(answers.length() == 0 ? "" : ", ").append(matcher.group(1));
                due.append(due.length() == 0 ? "" : ", ").append(matcher.group(2));
            }
        }
        source.append("return new int[] {").append(answers).append("};\n    }\n}\n");
        check(due.length() > 0, "the example of README.md tells no answers");
        check(("[" + due + "]").equals(Arrays.toString(answersOf(source.toString()))),
                "the example of README.md does not answer " + due);
    }

    private static int[] answersOf(String source) throws Exception {
        Path folder = Files.createTempDirectory("example");
        Path file = folder.resolve("Example.java");
        Files.writeString(file, source);
        int failed = new ProcessBuilder("javac", "-encoding", "UTF-8", "-cp", System.getProperty("java.class.path"),
                "-d", folder.toString(), file.toString()).inheritIO().start().waitFor();
        int[] answers = {};
        if (failed == 0) {
            try (URLClassLoader loader = new URLClassLoader(new URL[] {folder.toUri().toURL()})) {
                answers = (int[]) loader.loadClass("Example").getMethod("run").invoke(null);
            }
        }
        Files.deleteIfExists(folder.resolve("Example.class"));
        Files.delete(file);
        Files.delete(folder);
        return answers;
    }
}
