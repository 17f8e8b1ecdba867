import java.io.IOException;
import java.lang.reflect.Method;
import java.lang.reflect.Modifier;
import java.net.URL;
import java.net.URLClassLoader;
import java.nio.file.Files;
import java.nio.file.Path;
import java.util.ArrayList;
import java.util.List;
import java.util.regex.Matcher;
import java.util.regex.Pattern;
import javax.tools.JavaCompiler;
import javax.tools.ToolProvider;

/** README.md's examples are compiled and answer as README.md says; its way of running a test works. */
public final class ReadmeTest {
    private static final Check CHECK = new Check("ReadmeTest");
    private static final Pattern BLOCK = Pattern.compile("(?ms)^```(\\w+)\\n(.*?)^```$");
    private static final Pattern ANSWERED = Pattern.compile("^(\\w.*\\));\\s+// (-?\\d+|NONE|BAD|STATE|FULL)(:.*)?$");
    private static final Path TESTS = Path.of("src/test/java");

    public static void main(String[] args) throws Exception {
        String readme = Files.readString(Path.of("README.md"));
        examples(blocks(readme, "java"));
        allCalls(readme);
        ways(blocks(readme, "sh"));
        allTests(readme);
        CHECK.end();
    }

    /** What the examples, once compiled, hand their answers to. */
    public static void due(String call, int got, int want) {
        CHECK.due("README.md: " + call, got, want);
    }

    private static List<String> blocks(String readme, String language) {
        List<String> all = new ArrayList<>();
        Matcher m = BLOCK.matcher(readme);
        while (m.find()) {
            if (m.group(1).equals(language)) {
                all.add(m.group(2));
            }
        }
        return all;
    }

    private static void examples(List<String> blocks) throws Exception {
        StringBuilder code = new StringBuilder();
        StringBuilder helpers = new StringBuilder();
        int answers = 0;
        for (String block : blocks) {
            if (block.startsWith("static ")) {
                helpers.append(block);
                continue;
            }
            code.append("{\n");
            for (String line : block.split("\n")) {
                Matcher m = ANSWERED.matcher(line);
                code.append(m.matches() ? asDue(m) : line).append('\n');
                answers += m.matches() ? 1 : 0;
                boolean silent = line.startsWith("lay(") || line.startsWith("DuskGates town =");
                CHECK.due("README.md tells no answer: " + line, m.matches() || silent ? 1 : 0, 1);
            }
            code.append("}\n");
        }
        CHECK.due("README.md has examples", answers > 0 ? 1 : 0, 1);
        compileAndRun("public final class Readme {\npublic static void main(String[] args) {\n" + code + "}\n"
                + helpers + "}\n");
    }

    private static String asDue(Matcher m) {
        String want = Character.isLetter(m.group(2).charAt(0)) ? "DuskGates." + m.group(2) : m.group(2);
        String name = m.group(1).replace("\"", "'");
        return "ReadmeTest.due(\"" + name + "\", " + m.group(1) + ", " + want + ");";
    }

    private static void compileAndRun(String code) throws Exception {
        Path out = Files.createTempDirectory("readme");
        Path source = out.resolve("Readme.java");
        Files.writeString(source, code);
        JavaCompiler javac = ToolProvider.getSystemJavaCompiler();
        int exit = javac.run(null, null, null, "-cp", System.getProperty("java.class.path"), "-d", out.toString(),
                source.toString());
        CHECK.due("README.md's examples compile", exit, 0);
        if (exit == 0) {
            try (URLClassLoader loader = new URLClassLoader(new URL[] {out.toUri().toURL()})) {
                loader.loadClass("Readme").getMethod("main", String[].class).invoke(null, (Object) new String[0]);
            }
        }
        Files.deleteIfExists(out.resolve("Readme.class"));
        Files.delete(source);
        Files.delete(out);
    }

    private static void allCalls(String readme) {
        for (Method m : DuskGates.class.getDeclaredMethods()) {
            if (Modifier.isPublic(m.getModifiers())) {
                CHECK.due("README.md uses " + m.getName(), readme.contains("town." + m.getName() + "(") ? 1 : 0, 1);
            }
        }
    }

    /** The first way is the script that this test is run by; it must be there. The others are run. */
    private static void ways(List<String> blocks) throws IOException, InterruptedException {
        CHECK.due("README.md's ways of running tests", blocks.size(), 2);
        Path script = Path.of(blocks.get(0).strip());
        CHECK.due(script + " can be run", Files.isExecutable(script) ? 1 : 0, 1);
        for (int k = 1; k < blocks.size(); k++) {
            Process p = new ProcessBuilder("bash", "-e", "-c", blocks.get(k)).inheritIO().start();
            CHECK.due(blocks.get(k), p.waitFor(), 0);
        }
    }

    private static void allTests(String readme) throws IOException {
        try (var files = Files.list(TESTS)) {
            for (Path file : files.toList()) {
                String name = file.getFileName().toString().replace(".java", "");
                CHECK.due("README.md tells of " + name, readme.contains("`" + name + "`") ? 1 : 0, 1);
            }
        }
        Matcher m = Pattern.compile("`(\\w+Test)`").matcher(readme);
        while (m.find()) {
            CHECK.due(m.group(1) + " is there", Files.exists(TESTS.resolve(m.group(1) + ".java")) ? 1 : 0, 1);
        }
    }
}
