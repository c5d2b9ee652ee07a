import java.lang.reflect.Constructor;
import java.lang.reflect.Field;
import java.lang.reflect.Method;
import java.lang.reflect.Modifier;
import java.nio.file.Files;
import java.nio.file.Path;
import java.util.ArrayList;
import java.util.Arrays;
import java.util.List;
import java.util.TreeSet;
import java.util.regex.Matcher;
import java.util.regex.Pattern;

/** The document's face, and what can be seen of the rules of LANGUAGE.md from the class and its source. */
public final class LanguageTest {
    private static final Checks CHECKS = new Checks("language");
    private static final Path SOURCE = Path.of("src/main/java/OrphanShelf.java");
    private static final String[] FACE = {
        "int NONE", "OrphanShelf()", "boolean now(int)", "int owner(boolean,int)", "boolean died(int,int,int)",
        "boolean merge(int,int,int)", "int work(int,int,int,int,int,int)", "boolean share(int,int,int)",
        "int holds(int,int,int,int)", "int feed(int,int,int,int,int)", "int law(int,int,int,int)",
        "int number(int,int,int,int,int)", "int term(int,int,int,int,int)", "int free(int,int,int,int)",
        "boolean source(int,int)", "boolean chance(int,int,int)", "int look(int,int,int,int)", "int letter(int,int)",
        "boolean answer(int)", "int found(int,int,int)", "int enough(int,int,int,int)",
        "int why(int,int,int,int,int)", "int nobody(int,int,int)", "boolean agree(int,int)",
        "int ask(int,int,int,int)", "boolean uses(int,int,int,int)", "int comes(int)", "long paid(int,int)",
        "long cheapest(int,int,int)", "long judge(int,int,int)", "int like(int,int,int)", "boolean list(int,int)",
        "int joined(int,int,int,int,int)", "int audit(int,int,int)", "int shown(int)", "int leave(int,int)",
        "int count(int)"};

    public static void main(String[] args) throws Exception {
        face();
        classes();
        words();
        methods();
        CHECKS.end();
    }

    private static void due(String what, long got, long want) {
        CHECKS.due(what, got, want);
    }

    private static void due(String what, boolean got) {
        CHECKS.due(what, got, true);
    }

    private static String parameters(Class<?>[] types) {
        return "(" + String.join(",", Arrays.stream(types).map(Class::getName).toList()) + ")";
    }

    private static void face() {
        TreeSet<String> got = new TreeSet<>();
        for (Field field : OrphanShelf.class.getDeclaredFields()) {
            if (!Modifier.isPrivate(field.getModifiers())) {
                got.add(field.getType() + " " + field.getName());
                due("a constant: " + field, Modifier.isStatic(field.getModifiers())
                        && Modifier.isPublic(field.getModifiers()) && Modifier.isFinal(field.getModifiers()));
            }
        }
        for (Constructor<?> made : OrphanShelf.class.getDeclaredConstructors()) {
            got.add("OrphanShelf" + parameters(made.getParameterTypes()));
            due("public: " + made, Modifier.isPublic(made.getModifiers()));
        }
        for (Method method : OrphanShelf.class.getDeclaredMethods()) {
            if (!Modifier.isPrivate(method.getModifiers())) {
                got.add(method.getReturnType() + " " + method.getName() + parameters(method.getParameterTypes()));
                due("public: " + method, Modifier.isPublic(method.getModifiers()));
            }
        }
        TreeSet<String> want = new TreeSet<>(List.of(FACE));
        due("the face: " + got + " and not " + want, got.equals(want));
        due("the class is final", Modifier.isFinal(OrphanShelf.class.getModifiers()));
    }

    private static void classes() {
        List<Class<?>> all = new ArrayList<>(List.of(OrphanShelf.class.getDeclaredClasses()));
        all.add(OrphanShelf.class);
        due("classes: " + all.size(), all.size() <= 12);
        TreeSet<String> open = new TreeSet<>();
        for (Method method : OrphanShelf.class.getDeclaredMethods()) {
            if (Modifier.isPublic(method.getModifiers())) {
                open.add(method.getName());
            }
        }
        for (Class<?> one : all) {
            due("static: " + one, one == OrphanShelf.class || Modifier.isStatic(one.getModifiers()));
            due("no class inside: " + one, one == OrphanShelf.class || one.getDeclaredClasses().length == 0);
            int fields = 0;
            for (Field field : one.getDeclaredFields()) {
                boolean isStatic = Modifier.isStatic(field.getModifiers());
                fields += isStatic ? 0 : 1;
                due("final: " + field, !isStatic || Modifier.isFinal(field.getModifiers()));
            }
            due("fields of " + one + ": " + fields, fields <= 20);
            for (Method method : one.getDeclaredMethods()) {
                boolean isFace = one == OrphanShelf.class && Modifier.isPublic(method.getModifiers());
                due("bears the name of a public one: " + method, isFace || !open.contains(method.getName()));
                due("parameters: " + method, method.getParameterCount() <= 7);
            }
        }
    }

    private static String bare(String source) {
        return source.replaceAll("(?s)/\\*.*?\\*/", "").replaceAll("//[^\n]*", "");
    }

    private static void words() throws Exception {
        String source = bare(Files.readString(SOURCE));
        String[] never = {"\\bthrow\\b", "\\bthrows\\b", "\\btry\\b", "\\bcatch\\b", "\\bsynchronized\\b",
            "\\bassert\\b", "->", "::", "\\bpackage\\b", "\\bnative\\b", "\\bvolatile\\b", "Exact\\b", "\\bdouble\\b",
            "\\bfloat\\b", "\\btransient\\b", "while \\(true\\)", "for \\(;;\\)", "\"", "\\bprotected\\b"};
        for (String word : never) {
            Matcher found = Pattern.compile(word).matcher(source);
            due("never " + word, found.find() ? 1 : 0, 0);
        }
        Matcher imported = Pattern.compile("import ([^;]+);").matcher(source);
        while (imported.find()) {
            due("imported: " + imported.group(1), imported.group(1).equals("java.util.Arrays"));
        }
        Matcher library = Pattern.compile("\\b(Arrays|Math|Integer|Long|System)\\.(\\w+)").matcher(source);
        List<String> known = List.of("Arrays.fill", "Math.max", "Math.min", "Integer.bitCount", "System.arraycopy");
        while (library.find()) {
            due("of the library: " + library.group(), known.contains(library.group()));
        }
        // What is made is made in constructors: a field's own row, or a part of the whole.
        Matcher made = Pattern.compile("\n( *)([^\n]*)\\bnew\\b").matcher(source);
        while (made.find()) {
            String line = made.group(2);
            due("made in a constructor: " + line, line.startsWith("private final") || line.matches("\\w+ = "));
        }
    }

    private static void methods() throws Exception {
        String[] lines = Files.readString(SOURCE).split("\n");
        int began = -1;
        int indent = 0;
        Pattern head = Pattern.compile("( +)[\\w\\[\\] ]+\\([^;]*\\) \\{");
        for (int i = 0; i < lines.length; i++) {
            due("a line of " + lines[i].length() + " signs: " + (i + 1), lines[i].length() <= 120);
            Matcher begins = head.matcher(lines[i]);
            if (began < 0 && begins.matches() && begins.group(1).length() <= 8) {
                began = i;
                indent = begins.group(1).length();
            }
            if (began >= 0 && lines[i].equals(" ".repeat(indent) + "}")) {
                due("lines of the method at " + (began + 1), i - began < 60);
                began = -1;
            }
        }
    }
}
