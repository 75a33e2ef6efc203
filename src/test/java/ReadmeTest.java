import java.io.File;
import java.io.IOException;
import java.lang.reflect.Method;
import java.lang.reflect.Modifier;
import java.net.URL;
import java.net.URLClassLoader;
import java.nio.file.Files;
import java.nio.file.Path;
import java.util.ArrayList;
import java.util.List;
import java.util.regex.Matcher;
import java.util.regex.Pattern;
import javax.tools.ToolProvider;

/** What README.md shows as calls and answers: its Java is compiled as it stands there, and run in its order. */
public final class ReadmeTest {
    private static final Check CHECK = new Check("ReadmeTest");
    private static final Pattern CALL = Pattern.compile("(x\\.(\\w+)\\(.*\\)); +// (-?\\d+|throws \\w+)(: .+)?");

    private final StringBuilder methods = new StringBuilder();
    private final StringBuilder statements = new StringBuilder();
    private final List<String> calls = new ArrayList<>();
    private final List<String> names = new ArrayList<>();
    private final List<String> due = new ArrayList<>();

    public static void main(String[] args) throws Exception {
        ReadmeTest readme = new ReadmeTest();
        readme.read(Files.readAllLines(Path.of("README.md")));
        readme.showsEachCall();
        readme.answersAsShown();
        CHECK.end();
    }

    private void read(List<String> lines) {
        boolean inJava = false;
        boolean inMethod = false;
        for (String line : lines) {
            if (line.startsWith("```")) {
                inJava = line.equals("```java");
                inMethod = false;
            } else if (inJava) {
                inMethod |= line.startsWith("static ");
                (inMethod ? methods : statements).append(inMethod ? line : told(line)).append('\n');
            }
        }
    }

    /** A call with an answer as a line that keeps what is answered; every other line as it stands. */
    private String told(String line) {
        Matcher call = CALL.matcher(line);
        if (!call.matches()) {
            CHECK.due("an answer stands behind " + line, line.startsWith("x.") ? 1 : 0, 0);
            return line;
        }
        calls.add(call.group(1));
        names.add(call.group(2));
        due.add(call.group(3));
        return "try { answers.add(String.valueOf(" + call.group(1) + ")); }"
                + " catch (RuntimeException e) { answers.add(\"throws \" + e.getClass().getSimpleName()); }";
    }

    private void showsEachCall() {
        for (Method method : HopedHours.class.getDeclaredMethods()) {
            if (Modifier.isPublic(method.getModifiers())) {
                CHECK.due("shown: " + method.getName(), names.contains(method.getName()) ? 1 : 0, 1);
            }
        }
    }

    private void answersAsShown() throws Exception {
        List<?> answers = (List<?>) compiled().getMethod("answers").invoke(null);
        CHECK.due("how many answers", answers.size(), due.size());
        for (int i = 0; i < due.size() && i < answers.size(); i++) {
            CHECK.alike(calls.get(i), answers.get(i).toString(), due.get(i));
        }
    }

    private Class<?> compiled() throws IOException, ClassNotFoundException {
        File folder = Files.createTempDirectory("readme").toFile();
        File source = new File(folder, "Shown.java");
        // what is told first is deleted last
        folder.deleteOnExit();
        source.deleteOnExit();
        new File(folder, "Shown.class").deleteOnExit();
        Files.writeString(source.toPath(), "public final class Shown {\n" + methods
                + "public static java.util.List<String> answers() {\n"
                + "java.util.List<String> answers = new java.util.ArrayList<>();\n" + statements
                + "return answers;\n}\n}\n");
        int failed = ToolProvider.getSystemJavaCompiler().run(null, null, null, "-encoding", "UTF-8",
                "-cp", System.getProperty("java.class.path"), "-d", folder.getPath(), source.getPath());
        CHECK.due("compiling what README.md shows", failed, 0);
        return new URLClassLoader(new URL[] {folder.toURI().toURL()}).loadClass("Shown");
    }
}
