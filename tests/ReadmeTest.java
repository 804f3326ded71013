import java.lang.reflect.Method;
import java.lang.reflect.Modifier;
import java.net.URL;
import java.net.URLClassLoader;
import java.nio.file.Files;
import java.nio.file.Path;
import java.util.List;
import java.util.function.Supplier;
import java.util.regex.Matcher;
import java.util.regex.Pattern;
import javax.tools.ToolProvider;

/** README.md: its examples answer what stands behind their calls, and every call and test is told there. */
public final class ReadmeTest {
    private static final Pattern CALL = Pattern.compile("((?:int|long) (\\w+) = )?(x\\.\\w+\\(.*\\)); +// (-?\\d+)(\\D.*)?");
    private static final String NEW = "SecureLines x = new SecureLines();";

    public static void main(String[] args) throws Exception {
        List<String> lines = Files.readAllLines(Path.of("README.md"));
        String text = String.join("\n", lines);
        for (Method method : SecureLines.class.getDeclaredMethods()) {
            if (Modifier.isPublic(method.getModifiers())) {
                int n = method.getParameterCount();
                String told = "`" + method.getName() + "\\(" + (n == 0 ? "" : "\\w+(, \\w+){" + (n - 1) + "}") + "\\)`";
                Check.that("a table has " + told, Pattern.compile("\\|.*" + told + ".*\\|").matcher(text).find());
            }
        }
        try (var tests = Files.list(Path.of("tests"))) {
            for (Path test : tests.toList()) {
                String name = test.getFileName().toString().replace(".java", "");
                Check.that("it tells of " + name, text.contains("`" + name + "`"));
            }
        }
        Path place = Files.createTempDirectory("readme");
        Path source = place.resolve("ReadmeExamples.java");
        Path made = place.resolve("ReadmeExamples.class");
        Files.writeString(source, sourceOf(lines));
        int wrong = ToolProvider.getSystemJavaCompiler().run(null, null, null, "-cp",
            System.getProperty("java.class.path"), "-d", place.toString(), source.toString());
        Check.due("javac of the examples", wrong, 0);
        try (URLClassLoader loader = new URLClassLoader(new URL[] {place.toUri().toURL()})) {
            Object examples = loader.loadClass("ReadmeExamples").getDeclaredConstructor().newInstance();
            for (Object answer : (List<?>) ((Supplier<?>) examples).get()) {
                Object[] told = (Object[]) answer;
                Check.due("README.md: " + told[0], (Long) told[1], (Long) told[2]);
            }
        }
        Files.delete(made);
        Files.delete(source);
        Files.delete(place);
        Check.end("ReadmeTest");
    }

    /** A class of the examples that supplies of each call its text, what it answered, and what the README says. */
    private static String sourceOf(List<String> lines) {
        StringBuilder source = new StringBuilder("public final class ReadmeExamples implements "
            + "java.util.function.Supplier<java.util.List<Object[]>> {\npublic java.util.List<Object[]> get() {\n"
            + "java.util.List<Object[]> answers = new java.util.ArrayList<>();\n");
        boolean inside = false;
        int calls = 0;
        for (String line : lines) {
            Matcher call = CALL.matcher(line);
            if (line.startsWith("```")) {
                source.append(line.equals("```java") ? "{\n" : inside ? "}\n" : "");
                inside = line.equals("```java");
            } else if (inside && call.matches()) {
                String told = call.group(3);
                String got = call.group(1) == null ? told : call.group(2);
                source.append(call.group(1) == null ? "" : call.group(1) + told + ";\n");
                source.append("answers.add(new Object[] {\"").append(told).append("\", (long) ").append(got).append(", ");
                source.append(call.group(4)).append("L});\n");
                calls++;
            } else if (inside) {
                Check.that("a line of an example is a call with its answer: " + line, line.isEmpty() || line.equals(NEW));
                source.append(line).append('\n');
            }
        }
        Check.that("the examples have many calls", calls > 100);
        return source + "return answers;\n}\n}\n";
    }
}
