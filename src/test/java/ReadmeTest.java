import java.io.ByteArrayOutputStream;
import java.io.File;
import java.io.IOException;
import java.io.PrintStream;
import java.lang.reflect.Member;
import java.lang.reflect.Modifier;
import java.net.URL;
import java.net.URLClassLoader;
import java.nio.charset.StandardCharsets;
import java.nio.file.Files;
import java.nio.file.Path;
import java.util.ArrayList;
import java.util.Arrays;
import java.util.List;
import javax.tools.JavaCompiler;
import javax.tools.ToolProvider;

/** README.md keeps its word: its example prints what it says, and it names all calls, constants and tests. */
public final class ReadmeTest {
    private static final String SOURCE = "src/main/java/CalledTouches.java";
    private static final String TESTS = "src/test/java";

    private static final List<String> FAULTS = new ArrayList<>();

    private ReadmeTest() {
    }

    public static void main(String[] args) throws Exception {
        String readme = Files.readString(Path.of("README.md")).replace("\r\n", "\n");
        exampleIsAsTold(readme);
        namesTheFace(readme);
        namesTheTests(readme);
        FAULTS.forEach(System.out::println);
        System.out.println("ReadmeTest: " + (FAULTS.isEmpty() ? "README.md is as due" : "README.md is wrong"));
        if (!FAULTS.isEmpty()) {
            System.exit(1);
        }
    }

    private static void exampleIsAsTold(String readme) throws Exception {
        String program = block(readme, "java");
        String told = block(readme, "text");
        if (!program.contains("class Example ")) {
            FAULTS.add("no whole program, Example, stands there");
            return;
        }
        String printed = run(program);
        if (!printed.equals(told)) {
            FAULTS.add("the example prints\n" + printed + "but README.md says\n" + told);
        }
    }

    /** The lines of the first block of a kind; none without such a block. */
    private static String block(String readme, String kind) {
        String opening = "```" + kind + "\n";
        int start = readme.indexOf(opening);
        int end = start < 0 ? -1 : readme.indexOf("```\n", start + opening.length());
        return end < 0 ? "" : readme.substring(start + opening.length(), end);
    }

    private static String run(String program) throws Exception {
        Path directory = Files.createTempDirectory("readme");
        try {
            Path file = Files.writeString(directory.resolve("Example.java"), program);
            JavaCompiler compiler = ToolProvider.getSystemJavaCompiler();
            int failed = compiler.run(null, null, null, "-encoding", "UTF-8", "-d", directory.toString(), SOURCE,
                file.toString());
            return failed != 0 ? "nothing: it does not compile\n" : outputOf(directory);
        } finally {
            delete(directory);
        }
    }

    /** The example meets the class that it was compiled with, not the one of the tests. */
    private static String outputOf(Path directory) throws Exception {
        ByteArrayOutputStream bytes = new ByteArrayOutputStream();
        PrintStream before = System.out;
        URL[] places = {directory.toUri().toURL()};
        try (URLClassLoader loader = new URLClassLoader(places, ClassLoader.getPlatformClassLoader())) {
            System.setOut(new PrintStream(bytes, true, StandardCharsets.UTF_8));
            loader.loadClass("Example").getMethod("main", String[].class).invoke(null, (Object) new String[0]);
        } finally {
            System.setOut(before);
        }
        return bytes.toString(StandardCharsets.UTF_8).replace("\r\n", "\n");
    }

    private static void delete(Path directory) throws IOException {
        File[] files = directory.toFile().listFiles();
        for (File file : files == null ? new File[0] : files) {
            Files.delete(file.toPath());
        }
        Files.delete(directory);
    }

    private static void namesTheFace(String readme) throws IllegalAccessException {
        List<Member> face = new ArrayList<>(Arrays.asList(CalledTouches.class.getDeclaredMethods()));
        face.addAll(Arrays.asList(CalledTouches.class.getFields()));
        for (Member member : face) {
            if (Modifier.isPublic(member.getModifiers()) && !readme.contains("`" + member.getName() + "`")) {
                FAULTS.add(member.getName() + " of the face is not named");
            }
        }
        for (var constant : CalledTouches.class.getFields()) {
            if (!readme.contains("| `" + constant.getName() + "` | " + constant.getInt(null) + " |")) {
                FAULTS.add("the number of " + constant.getName() + " is not told");
            }
        }
    }

    private static void namesTheTests(String readme) {
        String[] files = new File(TESTS).list();
        for (String file : files == null ? new String[0] : files) {
            if (file.endsWith("Test.java") && !readme.contains("`" + file.replace(".java", "") + "`")) {
                FAULTS.add("the test " + file + " is not named");
            }
        }
        for (String needed : List.of(".ci/run", "../shared/tests", "../shared/DOC.md")) {
            if (!readme.contains(needed)) {
                FAULTS.add(needed + " is not named");
            }
        }
    }
}
