import java.io.File;
import java.io.IOException;
import java.net.URL;
import java.net.URLClassLoader;
import java.nio.file.Files;
import java.nio.file.Path;
import java.util.ArrayList;
import java.util.List;
import java.util.regex.Matcher;
import java.util.regex.Pattern;
import javax.tools.ToolProvider;

/** What README.md shows as an example is compiled and run: each call answers what stands behind it. */
public final class ReadmeTest {
    private static final Pattern BLOCK = Pattern.compile("(?s)```java\n(.*?)```");
    /** A call, and behind it its answer, with or without words on it. */
    private static final Pattern ASKED = Pattern.compile("(gun\\.\\w+\\([^;]*\\));\\s*// ([\\w-]+)(:.*)?");
    private static final Pattern DONE = Pattern.compile("(NoonGun gun = new NoonGun\\(\\);|put\\(gun, \".*\"\\);)?");
    private static final String ANSWER = "private static String answer(java.util.concurrent.Callable<?> call) {"
        + " try { return String.valueOf(call.call()); }"
        + " catch (Exception e) { return e.getClass().getSimpleName(); } }\n";

    private static final List<String> calls = new ArrayList<>();
    private static final List<String> due = new ArrayList<>();

    public static void main(String[] args) throws IOException, ReflectiveOperationException {
        String readme = Files.readString(Path.of("README.md"));
        namesEachTest(readme);
        List<String> told = run(program(readme));
        Check.due("answers that are shown", told.size(), due.size());
        for (int i = 0; i < due.size() && i < told.size(); i++) {
            Check.due("call " + i + " of README.md, " + calls.get(i), told.get(i), due.get(i));
        }
        showsEnough();
        Check.end();
    }

    private static void namesEachTest(String readme) {
        String[] files = new File("src/test/java").list();
        int tests = 0;
        for (String file : files == null ? new String[0] : files) {
            if (file.endsWith("Test.java")) {
                tests++;
                String test = "`" + file.replace(".java", "") + "`";
                Check.due("README.md names " + test, readme.contains(test), true);
            }
        }
        Check.due("there are tests", tests > 0, true);
        Check.due("README.md tells how to run them", readme.contains("`.ci/run`"), true);
    }

    private static void showsEnough() {
        String all = String.join(" ", calls);
        String[] shown = {"gun.sign(", "gun.end(", "gun.houses()", "gun.deeds()", "gun.row("};
        for (String call : shown) {
            Check.due("README.md shows " + call, all.contains(call), true);
        }
    }

    private static String program(String readme) {
        StringBuilder helpers = new StringBuilder();
        StringBuilder runs = new StringBuilder();
        Matcher block = BLOCK.matcher(readme);
        while (block.find()) {
            if (block.group(1).contains("new NoonGun()")) {
                runs.append("{\n");
                for (String line : block.group(1).split("\n")) {
                    runs.append(statement(line)).append('\n');
                }
                runs.append("}\n");
            } else {
                helpers.append(block.group(1));
            }
        }
        return "public final class Shown {\n" + helpers + ANSWER
            + "public static void run(java.util.List<String> told) {\n" + runs + "}\n}\n";
    }

    private static String statement(String line) {
        Matcher asked = ASKED.matcher(line);
        if (!asked.matches()) {
            Check.due("README.md tells an answer of: " + line, DONE.matcher(line).matches(), true);
            return line;
        }
        calls.add(asked.group(1));
        due.add(asked.group(2));
        return "told.add(answer(() -> " + asked.group(1) + "));";
    }

    private static List<String> run(String program) throws IOException, ReflectiveOperationException {
        List<String> told = new ArrayList<>();
        Path out = Files.createTempDirectory("shown");
        Path source = out.resolve("Shown.java");
        Files.writeString(source, program);
        int wrong = ToolProvider.getSystemJavaCompiler().run(null, System.out, System.out, "--release", "17",
            "-d", out.toString(), "-cp", System.getProperty("java.class.path"), source.toString());
        Check.due("README.md compiles", wrong, 0);
        if (wrong == 0) {
            ClassLoader own = ReadmeTest.class.getClassLoader();
            try (URLClassLoader loader = new URLClassLoader(new URL[] {out.toUri().toURL()}, own)) {
                loader.loadClass("Shown").getMethod("run", List.class).invoke(null, told);
            }
        }
        Files.deleteIfExists(out.resolve("Shown.class"));
        Files.delete(source);
        Files.delete(out);
        return told;
    }
}
