import java.io.IOException;
import java.lang.reflect.Method;
import java.lang.reflect.Modifier;
import java.nio.charset.StandardCharsets;
import java.nio.file.Files;
import java.nio.file.Path;
import java.util.ArrayList;
import java.util.Comparator;
import java.util.List;
import java.util.regex.Matcher;
import java.util.regex.Pattern;
import java.util.stream.Stream;

/** What README.md says holds as it stands there: its commands, its example, the calls, files and tests that it names. */
public final class ReadmeTest {
    private static final Checks CHECKS = new Checks("readme");

    public static void main(String[] args) throws Exception {
        String readme = Files.readString(Path.of("README.md"));
        commands(readme);
        everyCall(readme);
        namedFiles(readme);
        namedTests(readme);
        CHECKS.end();
    }

    private static List<String> blocks(String readme, String kind) {
        List<String> blocks = new ArrayList<>();
        Matcher block = Pattern.compile("(?s)\n```" + kind + "\n(.*?)\n```").matcher(readme);
        while (block.find()) {
            blocks.add(block.group(1));
        }
        return blocks;
    }

    /** Its two commands are run in a copy of the project, and the example prints what stands below it. */
    private static void commands(String readme) throws IOException, InterruptedException {
        List<String> examples = blocks(readme, "java");
        List<String> printed = blocks(readme, "text");
        List<String> commands = blocks(readme, "sh");
        CHECKS.due("examples", examples.size(), 1);
        CHECKS.due("what they print", printed.size(), 1);
        CHECKS.due("commands", commands.size(), 2);
        if (examples.size() != 1 || printed.size() != 1 || commands.size() != 2) {
            return;
        }
        Path dir = Files.createTempDirectory("readme");
        try {
            copy(Path.of("src"), dir.resolve("src"));
            Files.writeString(dir.resolve("Example.java"), examples.get(0));
            String got = printedBy(commands.get(0), dir);
            CHECKS.due("the example printed\n" + got, got.equals(printed.get(0) + "\n"), true);
            String test = printedBy(commands.get(1), dir);
            CHECKS.due("the test printed\n" + test, test.endsWith(", 0 wrong\n"), true);
        } finally {
            clear(dir);
        }
    }

    private static String printedBy(String command, Path dir) throws IOException, InterruptedException {
        Process process = new ProcessBuilder("sh", "-c", command).directory(dir.toFile())
                .redirectError(ProcessBuilder.Redirect.INHERIT).start();
        process.getOutputStream().close();
        String got = new String(process.getInputStream().readAllBytes(), StandardCharsets.UTF_8);
        CHECKS.due("exit code of " + command, process.waitFor(), 0);
        return got;
    }

    private static void copy(Path from, Path to) throws IOException {
        try (Stream<Path> all = Files.walk(from)) {
            for (Path one : all.toList()) {
                Files.copy(one, to.resolve(from.relativize(one).toString()));
            }
        }
    }

    private static void clear(Path dir) throws IOException {
        try (Stream<Path> all = Files.walk(dir)) {
            for (Path one : all.sorted(Comparator.reverseOrder()).toList()) {
                Files.delete(one);
            }
        }
    }

    /** Each call of the face stands in one row of the table, and no row has another. */
    private static void everyCall(String readme) {
        List<String> told = new ArrayList<>();
        for (String line : readme.split("\n")) {
            Matcher name = Pattern.compile("`(\\w+)`").matcher(line);
            while (line.startsWith("| ") && name.find()) {
                told.add(name.group(1));
            }
        }
        List<String> face = new ArrayList<>();
        for (Method method : OrphanShelf.class.getDeclaredMethods()) {
            if (Modifier.isPublic(method.getModifiers())) {
                face.add(method.getName());
            }
        }
        told.sort(null);
        face.sort(null);
        CHECKS.due("calls told: " + told + ", of the face: " + face, told.equals(face), true);
    }

    private static void namedFiles(String readme) {
        Matcher path = Pattern.compile("`((?:\\.\\./|\\.ci/|src/)[^`*]*)`").matcher(readme);
        int found = 0;
        while (path.find()) {
            found++;
            CHECKS.due("is there: " + path.group(1), Files.exists(Path.of(path.group(1))), true);
        }
        CHECKS.due("files are named", found > 0, true);
        CHECKS.due(".ci/run can be run", Files.isExecutable(Path.of(".ci/run")), true);
    }

    private static void namedTests(String readme) {
        Matcher test = Pattern.compile("\\b([A-Z]\\w*[a-z]Test)\\b").matcher(readme);
        int found = 0;
        while (test.find()) {
            found++;
            Path file = Path.of("src/test/java", test.group(1) + ".java");
            CHECKS.due("is there: " + file, Files.exists(file), true);
        }
        CHECKS.due("tests are named", found > 0, true);
    }
}
