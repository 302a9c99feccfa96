import java.io.File;
import java.io.IOException;
import java.lang.reflect.Method;
import java.lang.reflect.Modifier;
import java.net.URL;
import java.net.URLClassLoader;
import java.nio.file.Files;
import java.nio.file.Path;
import java.util.ArrayList;
import java.util.List;
import java.util.regex.Matcher;
import java.util.regex.Pattern;
import java.util.stream.Stream;
import javax.tools.ToolProvider;

/** README.md: its Java is compiled and run, each call answers what stands behind it, and no call is left untold. */
final class ReadmeTest {
    private static final Pattern JAVA = Pattern.compile("```java\n(.*?)```", Pattern.DOTALL);
    private static final Pattern ANSWERED = Pattern.compile("(x\\.\\w+\\(.*\\));\\s+// (-?\\d+|true|false): \\S.*");

    private ReadmeTest() {
    }

    public static void main(String[] args) throws Exception {
        String readme = Files.readString(Path.of("README.md"));
        List<String> blocks = new ArrayList<>();
        Matcher java = JAVA.matcher(readme);
        while (java.find()) {
            blocks.add(java.group(1));
        }
        Due.due("blocks of Java: helpers and an example", blocks.size(), 2);
        if (blocks.size() == 2) {
            run(blocks.get(0), blocks.get(1));
        }
        allCalls(readme);
        allTests(readme);
        Due.end("ReadmeTest");
    }

    /** Each call of the example is put in a list, beside the answer that is told behind it. */
    private static String source(String helpers, String example) {
        StringBuilder body = new StringBuilder();
        int told = 0;
        for (String line : example.split("\n")) {
            Matcher answered = ANSWERED.matcher(line);
            if (answered.matches()) {
                body.append("answers.add(String.valueOf(").append(answered.group(1)).append("));\n");
                body.append("answers.add(\"").append(answered.group(2)).append("\");\n");
                told++;
            } else {
                Due.due("a line that tells no answer: " + line, line.startsWith("x."), false);
                body.append(line).append('\n');
            }
        }
        Due.due("the example tells answers", told > 20, true);
        return "public final class Readme {\n" + helpers
            + "public static java.util.List<String> answers() {\n"
            + "java.util.List<String> answers = new java.util.ArrayList<>();\n"
            + body + "return answers;\n}\n}\n";
    }

    private static void run(String helpers, String example) throws Exception {
        Path place = Path.of("out", "readme");
        Files.createDirectories(place);
        Path file = place.resolve("Readme.java");
        Files.writeString(file, source(helpers, example));
        int failed = ToolProvider.getSystemJavaCompiler().run(null, null, null, "-cp", "out" + File.separator + "main",
            "-d", place.toString(), file.toString());
        Due.due("the Java of README.md compiles", failed, 0);
        if (failed != 0) {
            return;
        }
        try (URLClassLoader loader = new URLClassLoader(new URL[] {place.toUri().toURL()})) {
            List<?> answers = (List<?>) loader.loadClass("Readme").getMethod("answers").invoke(null);
            for (int i = 0; i + 1 < answers.size(); i += 2) {
                boolean same = answers.get(i).equals(answers.get(i + 1));
                Due.due("call " + (i / 2 + 1) + " of the example: " + answers.get(i) + ", told is " + answers.get(i + 1),
                    same, true);
            }
        }
    }

    private static void allCalls(String readme) {
        for (Method method : ForgetHeirs.class.getDeclaredMethods()) {
            if (Modifier.isPublic(method.getModifiers())) {
                Pattern row = Pattern.compile("\\| `" + method.getName() + "\\((\\w+(, )?){" + method.getParameterCount()
                    + "}\\)` \\|");
                Due.due("README.md tells of " + method.getName(), row.matcher(readme).find(), true);
            }
        }
    }

    private static void allTests(String readme) throws IOException {
        try (Stream<Path> tests = Files.list(Path.of("src/test/java"))) {
            tests.map(test -> test.getFileName().toString()).filter(name -> name.endsWith("Test.java"))
                .map(name -> name.replace(".java", ""))
                .forEach(name -> Due.due("README.md tells of " + name, readme.contains("| `" + name + "` |"), true));
        }
    }
}
