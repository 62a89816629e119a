import java.io.ByteArrayOutputStream;
import java.io.IOException;
import java.io.PrintStream;
import java.net.URL;
import java.net.URLClassLoader;
import java.nio.charset.StandardCharsets;
import java.nio.file.Files;
import java.nio.file.Path;
import java.util.ArrayList;
import java.util.Arrays;
import java.util.List;
import javax.tools.ToolProvider;

/** README.md: its program compiles and prints what stands below it, and the files that it names are there. */
public final class ReadmeExample extends Due {
    private static final Path README = Path.of("README.md");

    public static void main(String[] args) throws Exception {
        String readme = Files.readString(README, StandardCharsets.UTF_8);
        Path place = Files.createTempDirectory("readme");
        try {
            program(block(readme, "java"), block(readme, "text"), place);
        } finally {
            for (String name : List.of("Ford.java", "Ford.class")) {
                Files.deleteIfExists(place.resolve(name));
            }
            Files.delete(place);
        }
        for (String name : List.of("src/main/java/PoleRiver.java", "src/test/java", "src/test/lib", ".ci/run",
                "NOTES.md", "src/test/java/Promises.java")) {
            due("README.md names " + name, readme.contains(name), true);
            due("there is " + name, Files.exists(Path.of(name)), true);
        }
        due(".ci/run can be run", Files.isExecutable(Path.of(".ci/run")), true);
        testsInNotes();
        finish();
    }

    private static String block(String readme, String kind) {
        String begin = "```" + kind + "\n";
        int from = readme.indexOf(begin);
        int to = readme.indexOf("```\n", from + begin.length());
        due("README.md has a block of " + kind, from >= 0 && to > from, true);
        return from < 0 || to < from ? "" : readme.substring(from + begin.length(), to);
    }

    private static void program(String source, String want, Path place) throws Exception {
        Path file = place.resolve("Ford.java");
        Files.writeString(file, source);
        int failed = ToolProvider.getSystemJavaCompiler().run(null, null, null, "-d", place.toString(),
                "-cp", System.getProperty("java.class.path"), file.toString());
        due("the program of README.md compiles", failed, 0);
        if (failed == 0) {
            List<String> got = lines(run(place));
            List<String> due = lines(want);
            due("lines printed", got.size(), due.size());
            for (int k = 0; k < Math.min(got.size(), due.size()); k++) {
                due("printed: " + got.get(k) + ", README.md tells: " + due.get(k), got.get(k).equals(due.get(k)), true);
            }
        }
    }

    private static List<String> lines(String text) {
        return Arrays.asList(text.split("\\R"));
    }

    private static String run(Path place) throws Exception {
        ByteArrayOutputStream bytes = new ByteArrayOutputStream();
        PrintStream out = System.out;
        try (URLClassLoader loader = new URLClassLoader(new URL[] {place.toUri().toURL()})) {
            System.setOut(new PrintStream(bytes, true, StandardCharsets.UTF_8));
            loader.loadClass("Ford").getMethod("main", String[].class).invoke(null, (Object) new String[0]);
        } finally {
            System.setOut(out);
        }
        return bytes.toString(StandardCharsets.UTF_8);
    }

    /** README.md says that NOTES.md tells of each test. */
    private static void testsInNotes() throws IOException {
        String notes = Files.readString(Path.of("NOTES.md"), StandardCharsets.UTF_8);
        List<Path> tests = new ArrayList<>();
        try (var all = Files.list(Path.of("src/test/java"))) {
            all.forEach(tests::add);
        }
        for (Path test : tests) {
            String name = test.getFileName().toString().replace(".java", "");
            due("NOTES.md tells of " + name, notes.contains("`" + name + "`"), true);
        }
    }
}
