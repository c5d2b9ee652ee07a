import java.io.ByteArrayOutputStream;
import java.io.PrintStream;
import java.lang.reflect.Method;
import java.lang.reflect.Modifier;
import java.net.URL;
import java.net.URLClassLoader;
import java.nio.charset.StandardCharsets;
import java.nio.file.Files;
import java.nio.file.Path;
import java.util.ArrayList;
import java.util.Comparator;
import java.util.List;
import java.util.regex.Matcher;
import java.util.regex.Pattern;
import java.util.stream.Stream;
import javax.tools.JavaCompiler;
import javax.tools.ToolProvider;

/** What README.md says holds as it stands there: its example, its table of calls, the files and tests that it names. */
public final class ReadmeTest {
    private static final Checks CHECKS = new Checks("readme");

    public static void main(String[] args) throws Exception {
        String readme = Files.readString(Path.of("README.md"));
        theExample(readme);
        everyCall(readme);
        namedFiles(readme);
        namedTests(readme);
        CHECKS.end();
    }

    private static List<String> blocks(String readme, String kind) {
        List<String> blocks = new ArrayList<>();
        Matcher block = Pattern.compile("(?s)\n```" + kind + "\n(.*?)\n```").matcher(readme);
        while (block.find()) {
            blocks.add(block.group(1));
        }
        return blocks;
    }

    private static void theExample(String readme) throws Exception {
        List<String> examples = blocks(readme, "java");
        List<String> printed = blocks(readme, "text");
        CHECKS.due("examples", examples.size(), 1);
        CHECKS.due("what they print", printed.size(), 1);
        if (examples.size() != 1 || printed.size() != 1) {
            return;
        }
        Path dir = Files.createTempDirectory("readme");
        try {
            Path source = Files.writeString(dir.resolve("Example.java"), examples.get(0));
            JavaCompiler compiler = ToolProvider.getSystemJavaCompiler();
            int code = compiler.run(null, null, null, "-d", dir.toString(), "-Xlint:all", "-Werror",
                    "src/main/java/OrphanShelf.java", source.toString());
            CHECKS.due("compiling the example", code, 0);
            if (code == 0) {
                String got = whatExamplePrints(dir);
                CHECKS.due("the example printed\n" + got, got.equals(printed.get(0) + "\n"), true);
            }
        } finally {
            clear(dir);
        }
    }

    private static String whatExamplePrints(Path dir) throws Exception {
        ByteArrayOutputStream bytes = new ByteArrayOutputStream();
        PrintStream before = System.out;
        URL[] places = {dir.toUri().toURL()};
        try (URLClassLoader loader = new URLClassLoader(places, null);
                PrintStream caught = new PrintStream(bytes, true, StandardCharsets.UTF_8)) {
            System.setOut(caught);
            loader.loadClass("Example").getMethod("main", String[].class).invoke(null, (Object) new String[0]);
        } finally {
            System.setOut(before);
        }
        return bytes.toString(StandardCharsets.UTF_8).replace("\r\n", "\n");
    }

    private static void clear(Path dir) throws Exception {
        try (Stream<Path> all = Files.walk(dir)) {
            for (Path one : all.sorted(Comparator.reverseOrder()).toList()) {
                Files.delete(one);
            }
        }
    }

    /** Each call of the face stands in one row of the table, and no row has another. */
    private static void everyCall(String readme) {
        List<String> told = new ArrayList<>();
        for (String line : readme.split("\n")) {
            Matcher name = Pattern.compile("`(\\w+)`").matcher(line);
            while (line.startsWith("| ") && name.find()) {
                told.add(name.group(1));
            }
        }
        List<String> face = new ArrayList<>();
        for (Method method : OrphanShelf.class.getDeclaredMethods()) {
            if (Modifier.isPublic(method.getModifiers())) {
                face.add(method.getName());
            }
        }
        told.sort(null);
        face.sort(null);
        CHECKS.due("calls told: " + told + ", of the face: " + face, told.equals(face), true);
    }

    private static void namedFiles(String readme) {
        Matcher path = Pattern.compile("`((?:\\.\\./|\\.ci/|src/)[^`*]*)`").matcher(readme);
        int found = 0;
        while (path.find()) {
            found++;
            CHECKS.due("is there: " + path.group(1), Files.exists(Path.of(path.group(1))), true);
        }
        CHECKS.due("files are named", found > 0, true);
        CHECKS.due(".ci/run can be run", Files.isExecutable(Path.of(".ci/run")), true);
    }

    private static void namedTests(String readme) {
        Matcher test = Pattern.compile("\\b([A-Z]\\w*[a-z]Test)\\b").matcher(readme);
        int found = 0;
        while (test.find()) {
            found++;
            Path file = Path.of("src/test/java", test.group(1) + ".java");
            CHECKS.due("is there: " + file, Files.exists(file), true);
        }
        CHECKS.due("tests are named", found > 0, true);
    }
}
