import java.io.IOException;
import java.lang.reflect.Method;
import java.lang.reflect.Modifier;
import java.net.URL;
import java.net.URLClassLoader;
import java.nio.file.Files;
import java.nio.file.Path;
import java.util.ArrayList;
import java.util.List;
import java.util.Set;
import java.util.TreeSet;
import java.util.regex.Matcher;
import java.util.regex.Pattern;
import java.util.stream.Collectors;
import java.util.stream.Stream;
import javax.tools.JavaCompiler;
import javax.tools.ToolProvider;

/** What README.md shows of the class is so when it is tried: its Java lines are compiled and run. */
public final class ReadmeTest {
    private static final Path README = Path.of("README.md");
    private static final Path TESTS = Path.of("src/test/java");
    private static final Pattern NEW_TREE = Pattern.compile("(NameTree )?tree = new NameTree\\(\\);");
    private static final Pattern CALL = Pattern.compile("((?:tree\\.)?(\\w+)\\(.*\\));\\s*// (-?\\d+)(?:[: ].*)?");
    private static final Pattern TEST_ROW = Pattern.compile("\\| (\\w+Test) \\|.*");

    private final Check check = new Check("README.md");
    private final List<String> members = new ArrayList<>();
    private final List<String> statements = new ArrayList<>();
    private final List<String> shown = new ArrayList<>();
    private final List<Integer> wants = new ArrayList<>();
    private final Set<String> calls = new TreeSet<>();

    public static void main(String[] args) throws IOException, ReflectiveOperationException {
        ReadmeTest test = new ReadmeTest();
        List<String> lines = Files.readAllLines(README);
        test.readBlocks(lines);
        test.compareAnswers();
        test.tellsOfEveryCall();
        test.tellsOfEveryRefusal();
        test.tellsOfEveryTest(lines);
        Check.end();
    }

    private void readBlocks(List<String> lines) {
        int from = lines.indexOf("```java");
        while (from >= 0) {
            int length = lines.subList(from, lines.size()).indexOf("```");
            List<String> block = lines.subList(from + 1, from + length);
            if (block.stream().anyMatch(line -> line.startsWith("static "))) {
                members.addAll(block);
            } else {
                block.forEach(this::readStatement);
            }
            int next = lines.subList(from + length, lines.size()).indexOf("```java");
            from = next < 0 ? -1 : from + length + next;
        }
    }

    private void readStatement(String line) {
        Matcher call = CALL.matcher(line);
        if (NEW_TREE.matcher(line).matches()) {
            statements.add(line);
        } else if (call.matches()) {
            statements.add("answers[" + wants.size() + "] = " + call.group(1) + ";");
            shown.add(line);
            calls.add(call.group(2));
            wants.add(Integer.valueOf(call.group(3)));
        } else {
            check.same("a Java line", line, "a new tree, or a call with its answer");
        }
    }

    private void compareAnswers() throws IOException, ReflectiveOperationException {
        int[] answers = answersOfRun();
        for (int i = 0; i < answers.length; i++) {
            check.due(shown.get(i), answers[i], wants.get(i));
        }
    }

    private int[] answersOfRun() throws IOException, ReflectiveOperationException {
        Path folder = Files.createTempDirectory("readme");
        try {
            Path source = folder.resolve("ReadmeRun.java");
            Files.write(source, sourceOfRun());
            JavaCompiler compiler = ToolProvider.getSystemJavaCompiler();
            String classPath = System.getProperty("java.class.path");
            int result = compiler.run(null, null, null, "-cp", classPath, "-d", folder.toString(), source.toString());
            check.due("the Java lines compile", result, 0);
            return result == 0 ? answersOf(folder) : new int[0];
        } finally {
            delete(folder);
        }
    }

    private List<String> sourceOfRun() {
        List<String> source = new ArrayList<>();
        source.add("public final class ReadmeRun {");
        source.addAll(members);
        source.add("public static int[] run() {");
        source.add("int[] answers = new int[" + wants.size() + "];");
        source.addAll(statements);
        source.add("return answers; } }");
        return source;
    }

    private static int[] answersOf(Path folder) throws IOException, ReflectiveOperationException {
        URL[] places = {folder.toUri().toURL()};
        try (URLClassLoader loader = new URLClassLoader(places, ReadmeTest.class.getClassLoader())) {
            return (int[]) loader.loadClass("ReadmeRun").getMethod("run").invoke(null);
        }
    }

    private static void delete(Path folder) throws IOException {
        try (Stream<Path> inside = Files.list(folder)) {
            for (Path file : inside.collect(Collectors.toList())) {
                Files.delete(file);
            }
        }
        Files.delete(folder);
    }

    private void tellsOfEveryCall() {
        for (Method method : NameTree.class.getDeclaredMethods()) {
            if (Modifier.isPublic(method.getModifiers())) {
                check.due("shows " + method.getName(), calls.contains(method.getName()) ? 1 : 0, 1);
            }
        }
    }

    private void tellsOfEveryRefusal() {
        for (int answer = Check.INSIDE; answer <= Check.BAD; answer++) {
            check.due("shows the answer " + answer, wants.contains(answer) ? 1 : 0, 1);
        }
    }

    private void tellsOfEveryTest(List<String> lines) throws IOException {
        Set<String> told = new TreeSet<>();
        for (String line : lines) {
            Matcher row = TEST_ROW.matcher(line);
            if (row.matches()) {
                told.add(row.group(1) + ".java");
            }
        }
        try (Stream<Path> files = Files.list(TESTS)) {
            Set<String> there = files.map(file -> file.getFileName().toString())
                    .filter(name -> name.endsWith("Test.java"))
                    .collect(Collectors.toCollection(TreeSet::new));
            check.same("the tests that are told of", told.toString(), there.toString());
        }
    }
}
