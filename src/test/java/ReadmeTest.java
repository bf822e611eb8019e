import java.io.IOException;
import java.lang.reflect.Method;
import java.lang.reflect.Modifier;
import java.net.URL;
import java.net.URLClassLoader;
import java.nio.file.Files;
import java.nio.file.Path;
import java.util.ArrayList;
import java.util.List;
import java.util.regex.Matcher;
import java.util.regex.Pattern;
import java.util.stream.Stream;
import javax.tools.JavaCompiler;
import javax.tools.ToolProvider;

/**
 * Makes the calls that README.md shows, as they stand there, and holds the answers against those it tells. A line's
 * answer is what stands behind the two slashes, up to a colon.
 */
public final class ReadmeTest {
    private static final Pattern SHOWN = Pattern.compile("(?:int (\\w+) = )?(x\\..*);\\s*// ([^:]*)(?::.*)?");
    private static final Pattern UNTOLD =
        Pattern.compile("FaultSearch x = new FaultSearch\\(\\);|x\\.(reset|clear)\\(\\);");

    private static final Check CHECK = new Check("ReadmeTest");

    private final List<String> calls = new ArrayList<>();
    private final List<String> due = new ArrayList<>();
    private final StringBuilder code = new StringBuilder();

    private ReadmeTest() {
    }

    /** The lines between the marks of Java code. */
    private static List<String> example(List<String> readme) {
        int from = readme.indexOf("```java") + 1;
        List<String> behind = readme.subList(from, readme.size());
        return behind.subList(0, Math.max(0, behind.indexOf("```")));
    }

    private void take(String line) {
        Matcher shown = SHOWN.matcher(line);
        if (shown.matches()) {
            calls.add(shown.group(2));
            due.add(shown.group(3).strip());
            takeTold(shown.group(1), shown.group(2));
        } else {
            CHECK.is("'" + line + "' needs no answer", UNTOLD.matcher(line).matches(), true);
            code.append(line).append('\n');
        }
    }

    private void takeTold(String name, String call) {
        if (name != null) {
            code.append("int ").append(name).append(" = ").append(call).append(";\n");
            code.append("told.add(String.valueOf(").append(name).append("));\n");
            return;
        }
        code.append("try { told.add(String.valueOf(").append(call).append(")); }\n");
        code.append("catch (RuntimeException e) { told.add(\"throws \" + e.getClass().getSimpleName()); }\n");
    }

    private String source() {
        String head = "public final class ReadmeUse {\npublic static void use(java.util.List<String> told) {\n";
        return head + code + "}\n}\n";
    }

    private List<String> answers(Path room) throws IOException, ReflectiveOperationException {
        Path file = Files.writeString(room.resolve("ReadmeUse.java"), source());
        JavaCompiler compiler = ToolProvider.getSystemJavaCompiler();
        String path = System.getProperty("java.class.path");
        int exit = compiler.run(null, null, null, "-cp", path, "-d", room.toString(), file.toString());
        CHECK.is("javac of the example", exit, 0);
        List<String> told = new ArrayList<>();
        if (exit == 0) {
            try (URLClassLoader loader = new URLClassLoader(new URL[] {room.toUri().toURL()})) {
                loader.loadClass("ReadmeUse").getMethod("use", List.class).invoke(null, told);
            }
        }
        return told;
    }

    private void compare() throws IOException, ReflectiveOperationException {
        Path room = Files.createTempDirectory("readme");
        List<String> told;
        try {
            told = answers(room);
        } finally {
            empty(room);
        }
        CHECK.is("answers", told.size(), due.size());
        for (int i = 0; i < Math.min(told.size(), due.size()); i++) {
            CHECK.same(calls.get(i), told.get(i), due.get(i));
        }
    }

    private static void empty(Path room) throws IOException {
        for (Path file : files(room)) {
            Files.delete(file);
        }
        Files.delete(room);
    }

    private static List<Path> files(Path folder) throws IOException {
        try (Stream<Path> files = Files.list(folder)) {
            return files.toList();
        }
    }

    /** The example uses each method of the face at least once. */
    private void everyMethod() {
        for (Method method : FaultSearch.class.getDeclaredMethods()) {
            if (Modifier.isPublic(method.getModifiers())) {
                String call = "x." + method.getName() + "(";
                CHECK.is("the example has " + call, code.indexOf(call) >= 0, true);
            }
        }
    }

    /** .ci/run runs each file of this name: README.md tells of all of them and of no other. */
    private static void everyTest(String readme) throws IOException {
        List<String> tests = new ArrayList<>();
        for (Path file : files(Path.of("src/test/java"))) {
            String name = file.getFileName().toString().replace(".java", "");
            if (name.endsWith("Test")) {
                tests.add(name);
                CHECK.is("README.md tells of " + name, readme.contains("`" + name + "`"), true);
            }
        }
        Matcher named = Pattern.compile("`(\\w+Test)`").matcher(readme);
        while (named.find()) {
            CHECK.is("there is a test " + named.group(1), tests.contains(named.group(1)), true);
        }
        CHECK.is("README.md tells of .ci/run", readme.contains("    .ci/run\n"), true);
        CHECK.is(".ci/run can be run", Files.isExecutable(Path.of(".ci/run")), true);
    }

    public static void main(String[] args) throws IOException, ReflectiveOperationException {
        Path readme = Path.of("README.md");
        ReadmeTest test = new ReadmeTest();
        for (String line : example(Files.readAllLines(readme))) {
            test.take(line);
        }
        CHECK.about("What README.md shows of the class's use is so");
        test.compare();
        test.everyMethod();
        everyTest(Files.readString(readme));
        CHECK.end();
    }
}
