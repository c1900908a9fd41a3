import java.io.IOException;
import java.lang.reflect.Method;
import java.lang.reflect.Modifier;
import java.net.URL;
import java.net.URLClassLoader;
import java.nio.file.Files;
import java.nio.file.Path;
import java.util.regex.Matcher;
import java.util.regex.Pattern;
import javax.tools.ToolProvider;

/** Runs the example of README.md: each call there must answer what stands behind it. */
public final class ReadmeTest {
    private static final Pattern ANSWERED = Pattern.compile("(group\\.[^;]*); *// = ([^ :]+).*");
    private static final Checks checks = new Checks("ReadmeTest");

    public static void main(String[] args) throws Exception {
        String readme = Files.readString(Path.of("README.md"));
        int begin = readme.indexOf("```java\n") + "```java\n".length();
        String example = readme.substring(begin, readme.indexOf("```", begin));
        run(programOf(example));
        for (Method method : RingGroup.class.getDeclaredMethods()) {
            if (Modifier.isPublic(method.getModifiers())) {
                checks.due("tells of " + method.getName(), readme.contains("`" + method.getName() + "("), true);
            }
        }
        checks.end();
    }

    /** Called by the example, which has a loader of its own: so it is public. */
    public static void due(String call, Object got, String want) {
        checks.due(call, got.toString(), want);
    }

    private static String programOf(String example) {
        StringBuilder text = new StringBuilder("public final class ReadmeExample {\n");
        text.append("public static void main(String[] a) {\n");
        for (String line : example.split("\n")) {
            Matcher answered = ANSWERED.matcher(line);
            if (answered.matches()) {
                text.append("ReadmeTest.due(\"").append(answered.group(1)).append("\", ").append(answered.group(1))
                        .append(", \"").append(answered.group(2)).append("\");\n");
            } else {
                text.append(line).append('\n');
            }
        }
        return text.append("}\n}\n").toString();
    }

    private static void run(String program) throws IOException, ReflectiveOperationException {
        Path folder = Files.createTempDirectory("readme");
        Path source = Files.writeString(folder.resolve("ReadmeExample.java"), program);
        int compiled = ToolProvider.getSystemJavaCompiler().run(null, null, null, "-cp",
                System.getProperty("java.class.path"), "-d", folder.toString(), source.toString());
        checks.due("exit code of the compiler", compiled, 0);
        if (compiled == 0) {
            try (URLClassLoader loader = new URLClassLoader(new URL[] {folder.toUri().toURL()})) {
                Method main = loader.loadClass("ReadmeExample").getMethod("main", String[].class);
                main.invoke(null, (Object) new String[0]);
            }
            Files.delete(folder.resolve("ReadmeExample.class"));
        }
        Files.delete(source);
        Files.delete(folder);
    }
}
