import java.io.IOException;
import java.lang.reflect.InvocationTargetException;
import java.net.URL;
import java.net.URLClassLoader;
import java.nio.file.Files;
import java.nio.file.Path;
import java.util.regex.Matcher;
import java.util.regex.Pattern;
import javax.tools.JavaCompiler;
import javax.tools.ToolProvider;

/** Each answer that README.md tells behind its calls. */
public final class ReadmeTest {
    private static final Pattern TOLD = Pattern.compile("(int \\w+ = )?(x\\.\\w+\\(.*\\));\\s*// = (-?\\d+)\\b.*");
    private static final Pattern CALL = Pattern.compile("public (?:int|long) (\\w+)\\(");
    private static final Path PROGRAM = Path.of("src/main/java/CaseTrials.java");

    private static int told = 0;
    private static int wrong = 0;

    /** The example as a program: each line that tells an answer holds the call's own answer against it. */
    private static String program(String example) {
        StringBuilder out = new StringBuilder("public final class Example {\n    public static int wrong = 0;\n"
                + "    private static int due(String call, long got, long want) {\n"
                + "        if (got != want) { wrong++; System.out.println(call + \" answered \" + got); }\n"
                + "        return (int) got;\n    }\n    public static void tryAll() {\n");
        for (String line : example.split("\n")) {
            Matcher m = TOLD.matcher(line);
            if (m.matches()) {
                told++;
                out.append(m.group(1) == null ? "" : m.group(1)).append("due(\"").append(m.group(2)).append("\", ")
                        .append(m.group(2)).append(", ").append(m.group(3)).append("L);\n");
            } else if (line.startsWith("//") || line.isBlank() || line.equals("CaseTrials x = new CaseTrials();")) {
                out.append(line).append('\n');
            } else {
                wrong++;
                System.out.println("a line that tells no answer: " + line);
            }
        }
        return out.append("    }\n}\n").toString();
    }

    private static void tryExample(String example) throws IOException, ReflectiveOperationException {
        Path directory = Files.createTempDirectory("readme");
        Path source = directory.resolve("Example.java");
        Files.writeString(source, program(example));
        JavaCompiler compiler = ToolProvider.getSystemJavaCompiler();
        int compiled = compiler.run(null, null, null, "-cp", System.getProperty("java.class.path"), "-d",
                directory.toString(), source.toString());
        if (compiled != 0) {
            wrong++;
            return;
        }
        try (URLClassLoader loader = new URLClassLoader(new URL[] {directory.toUri().toURL()})) {
            Class<?> tried = loader.loadClass("Example");
            tried.getMethod("tryAll").invoke(null);
            wrong += tried.getField("wrong").getInt(null);
        } catch (InvocationTargetException e) {
            wrong++;
            System.out.println("the example throws: " + e.getCause());
        }
        Files.delete(directory.resolve("Example.class"));
        Files.delete(source);
        Files.delete(directory);
    }

    public static void main(String[] args) throws IOException, ReflectiveOperationException {
        String page = Files.readString(Path.of("README.md"));
        int start = page.indexOf("```java\n") + 8;
        int end = page.indexOf("```", start);
        tryExample(page.substring(start, end));
        Matcher call = CALL.matcher(Files.readString(PROGRAM));
        while (call.find()) {
            if (!page.substring(end).contains("`" + call.group(1))) {
                wrong++;
                System.out.println("README.md does not tell of " + call.group(1));
            }
        }
        System.out.println(told + " answers of README.md asked, " + wrong + " wrong");
        if (wrong != 0 || told == 0) {
            System.exit(1);
        }
    }
}
