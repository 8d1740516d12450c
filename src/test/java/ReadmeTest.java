import java.lang.reflect.Method;
import java.net.URL;
import java.net.URLClassLoader;
import java.nio.file.Files;
import java.nio.file.Path;
import java.util.ArrayList;
import java.util.List;
import java.util.regex.Matcher;
import java.util.regex.Pattern;
import javax.tools.ToolProvider;

/** README.md's example, compiled and run as it stands there: each call answers the number in its comment. */
public final class ReadmeTest {
    private static final Pattern BLOCK = Pattern.compile("(?ms)^```java\n(.*?)^```");
    private static final Pattern CALL = Pattern.compile("(bank\\..*\\)); *// (-?\\d+)\\b.*");
    private static final List<String> CALLS = new ArrayList<>();
    private static final List<Integer> TOLD = new ArrayList<>();

    private ReadmeTest() { }

    public static void main(String[] args) throws Exception {
        String readme = Files.readString(Path.of("README.md"));
        List<String> blocks = new ArrayList<>();
        Matcher m = BLOCK.matcher(readme);
        while (m.find()) {
            blocks.add(m.group(1));
        }
        Check.due("blocks of Java in README.md", blocks.size(), 2);
        if (blocks.size() == 2) {
            String calls = noted(blocks.get(1));
            compare(run("public final class Example {\n" + blocks.get(0) + "public static int[] run() {\nint[] got = new int["
                + CALLS.size() + "];\n" + calls + "return got;\n}\n}\n"));
        }
        everyMethod(readme);
        Check.done();
    }

    /** Each call's answer is kept; a line that tells none is wrong. */
    private static String noted(String block) {
        StringBuilder code = new StringBuilder();
        for (String line : block.split("\n")) {
            Matcher m = CALL.matcher(line);
            if (m.matches()) {
                code.append("got[").append(CALLS.size()).append("] = ").append(m.group(1)).append(";\n");
                CALLS.add(m.group(1));
                TOLD.add(Integer.valueOf(m.group(2)));
            } else {
                Check.due("tells its answer: " + line, line.startsWith("WinkBank bank = ") ? 1 : 0, 1);
                code.append(line).append('\n');
            }
        }
        return code.toString();
    }

    private static int[] run(String code) throws Exception {
        Path dir = Files.createTempDirectory("readme");
        Path file = dir.resolve("Example.java");
        Files.writeString(file, code);
        int failed = ToolProvider.getSystemJavaCompiler().run(null, null, null,
            "-cp", System.getProperty("java.class.path"), "-d", dir.toString(), file.toString());
        Check.due("README.md's example compiles", failed, 0);
        int[] got = new int[0];
        if (failed == 0) {
            try (URLClassLoader loader = new URLClassLoader(new URL[] {dir.toUri().toURL()})) {
                got = (int[]) loader.loadClass("Example").getMethod("run").invoke(null);
            }
        }
        Files.deleteIfExists(dir.resolve("Example.class"));
        Files.delete(file);
        Files.delete(dir);
        return got;
    }

    private static void compare(int[] got) {
        Check.due("calls of README.md's example", got.length, CALLS.size());
        for (int i = 0; i < got.length; i++) {
            Check.due("README.md's " + CALLS.get(i), got[i], TOLD.get(i));
        }
    }

    /** No method of the face is left out. */
    private static void everyMethod(String readme) {
        for (Method m : WinkBank.class.getMethods()) {
            if (m.getDeclaringClass() == WinkBank.class) {
                Check.due("README.md names " + m.getName(), readme.contains("`" + m.getName() + "`") ? 1 : 0, 1);
            }
        }
    }
}
