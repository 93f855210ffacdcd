import java.io.IOException;
import java.lang.reflect.InvocationTargetException;
import java.lang.reflect.Method;
import java.lang.reflect.Modifier;
import java.net.URL;
import java.net.URLClassLoader;
import java.nio.charset.StandardCharsets;
import java.nio.file.Files;
import java.nio.file.Path;
import java.util.Set;
import java.util.TreeSet;
import java.util.regex.Matcher;
import java.util.regex.Pattern;
import java.util.stream.Stream;
import javax.tools.JavaCompiler;
import javax.tools.ToolProvider;

/** What README.md says: its examples answer what they say behind them, and it names each call and each test there is. */
public final class ReadmeTest {
    private static final Due DUE = new Due("ReadmeTest");
    private static final Pattern BLOCK = Pattern.compile("```java\n(.*?)```", Pattern.DOTALL);
    private static final Pattern TOLD = Pattern.compile("^(?:int (\\w+) = )?(.*); *// (-?\\d+)(?:: .*)?$");

    public static void main(String[] args) throws Exception {
        Path readme = Path.of("README.md");
        String text = Files.readString(readme, StandardCharsets.UTF_8);
        examples(text);
        namesEachCall(text);
        namesEachTest(text);
        DUE.end();
    }

    /** Holds what a line of an example answers against what stands behind it; called by the class that is made of them. */
    public static void holds(String line, long got, long want) {
        DUE.is(line, got, want);
    }

    /** All blocks are one program, as they stand in the file, with each told answer held against the one that comes. */
    private static void examples(String text) throws Exception {
        StringBuilder program = new StringBuilder("public final class Example {\n    public static void run() {\n");
        int told = 0;
        Matcher block = BLOCK.matcher(text);
        while (block.find()) {
            for (String line : block.group(1).split("\n")) {
                Matcher answer = TOLD.matcher(line);
                if (answer.matches()) {
                    told++;
                    program.append(heldLine(answer));
                } else {
                    DUE.is("no answer is told behind: " + line, line.matches(".*\\bnew UnderTheDesks\\(\\);|for .*|    .*|}") ? 1 : 0, 1);
                    program.append(line).append('\n');
                }
            }
        }
        DUE.is("some answers are told", told > 20 ? 1 : 0, 1);
        run(program.append("    }\n}\n").toString());
    }

    private static String heldLine(Matcher answer) {
        String name = answer.group(1);
        String call = answer.group(2);
        String kept = name == null ? "" : "int " + name + " = " + call + ";\n";
        String quoted = "\"" + call.replace("\\", "\\\\").replace("\"", "\\\"") + "\"";
        return kept + "ReadmeTest.holds(" + quoted + ", " + (name == null ? call : name) + ", " + answer.group(3) + ");\n";
    }

    private static void run(String program) throws IOException, ReflectiveOperationException {
        Path home = Files.createTempDirectory("readme");
        try {
            Path source = Files.writeString(home.resolve("Example.java"), program, StandardCharsets.UTF_8);
            JavaCompiler compiler = ToolProvider.getSystemJavaCompiler();
            int failed = compiler.run(null, System.out, System.out, "-d", home.toString(), "-cp", System.getProperty("java.class.path"),
                source.toString());
            DUE.is("the examples compile", failed, 0);
            if (failed == 0) {
                try (URLClassLoader loader = new URLClassLoader(new URL[] {home.toUri().toURL()}, ReadmeTest.class.getClassLoader())) {
                    loader.loadClass("Example").getMethod("run").invoke(null);
                }
            }
        } catch (InvocationTargetException e) {
            DUE.is("the examples throw " + e.getCause(), 1, 0);
        } finally {
            try (Stream<Path> files = Files.list(home)) {
                for (Path file : (Iterable<Path>) files::iterator) {
                    Files.delete(file);
                }
            }
            Files.delete(home);
        }
    }

    private static void namesEachCall(String text) {
        for (Method method : UnderTheDesks.class.getDeclaredMethods()) {
            if (Modifier.isPublic(method.getModifiers())) {
                boolean isNamed = Pattern.compile("`" + method.getName() + "[`(]").matcher(text).find();
                DUE.is("README.md names " + method.getName(), isNamed ? 1 : 0, 1);
            }
        }
    }

    private static void namesEachTest(String text) throws IOException {
        Set<String> named = new TreeSet<>();
        Matcher row = Pattern.compile("^\\| `(\\w+Test)` \\|", Pattern.MULTILINE).matcher(text);
        while (row.find()) {
            named.add(row.group(1));
        }
        Set<String> found = new TreeSet<>();
        try (Stream<Path> files = Files.list(Path.of("src/test/java"))) {
            files.map(file -> file.getFileName().toString()).filter(name -> name.endsWith("Test.java"))
                .forEach(name -> found.add(name.substring(0, name.length() - 5)));
        }
        DUE.is("README.md names the tests " + named + ", there are " + found, named.equals(found) ? 1 : 0, 1);
    }
}
