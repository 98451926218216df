import java.io.IOException;
import java.lang.reflect.Method;
import java.lang.reflect.Modifier;
import java.net.URL;
import java.net.URLClassLoader;
import java.nio.file.Files;
import java.nio.file.Path;
import java.util.ArrayList;
import java.util.List;
import java.util.regex.Matcher;
import java.util.regex.Pattern;
import java.util.stream.Stream;

/** README.md: its example is compiled and run as it stands there, and it names each call and each test. */
public final class ReadmeTests {
    private static final Path README = Path.of("README.md");
    private static final Pattern BLOCK = Pattern.compile("(?s)```java\n(.*?)```");
    private static final Pattern LINE = Pattern.compile("(wells\\..*);\\s*// (-?\\d+)(:.*)?");
    private static int wrong = 0;

    private static void check(String what, boolean good) {
        if (!good) {
            wrong++;
            System.out.println("not so: " + what);
        }
    }

    /** A row of the page's example as a row that keeps the call's answer. */
    private static String asked(String row) {
        Matcher line = LINE.matcher(row);
        return line.matches() ? "answers.add((long) " + line.group(1) + ");" : row;
    }

    private static String program(List<String> blocks) {
        StringBuilder text = new StringBuilder("public final class ReadmeExample {\n");
        text.append(blocks.get(0));
        text.append("public static java.util.List<Long> answers() {\n");
        text.append("java.util.List<Long> answers = new java.util.ArrayList<>();\n");
        for (String row : blocks.get(1).split("\n")) {
            text.append(asked(row)).append('\n');
        }
        return text.append("return answers;\n}\n}\n").toString();
    }

    private static List<?> answersOf(String program) throws IOException, InterruptedException, ReflectiveOperationException {
        Path folder = Files.createTempDirectory("readme");
        Path source = folder.resolve("ReadmeExample.java");
        try {
            Files.writeString(source, program);
            int failed = new ProcessBuilder("javac", "-cp", System.getProperty("java.class.path"), "-d", folder.toString(),
                source.toString()).inheritIO().start().waitFor();
            check("the example compiles", failed == 0);
            if (failed != 0) {
                return List.of();
            }
            try (URLClassLoader loader = new URLClassLoader(new URL[] {folder.toUri().toURL()})) {
                return (List<?>) loader.loadClass("ReadmeExample").getMethod("answers").invoke(null);
            }
        } finally {
            Files.deleteIfExists(source);
            Files.deleteIfExists(folder.resolve("ReadmeExample.class"));
            Files.deleteIfExists(folder);
        }
    }

    private static void theExample(String page) throws IOException, InterruptedException, ReflectiveOperationException {
        List<String> blocks = new ArrayList<>();
        Matcher block = BLOCK.matcher(page);
        while (block.find()) {
            blocks.add(block.group(1));
        }
        check("a helper and an example", blocks.size() == 2);
        if (blocks.size() != 2) {
            return;
        }
        List<?> answers = answersOf(program(blocks));
        int asked = 0;
        for (String row : blocks.get(1).split("\n")) {
            Matcher line = LINE.matcher(row);
            if (line.matches()) {
                Object got = asked < answers.size() ? answers.get(asked) : "nothing";
                check(row + " answered " + got, got.toString().equals(line.group(2)));
                asked++;
            }
        }
        check("calls in the example", asked >= 10);
    }

    private static void theNames(String page) throws IOException {
        for (Method m : DimpleWells.class.getDeclaredMethods()) {
            boolean own = Modifier.isPublic(m.getModifiers());
            check("README.md names " + m.getName(), !own || page.matches("(?s).*\\b" + m.getName() + "\\(.*"));
        }
        try (Stream<Path> tests = Files.list(Path.of("src/test/java"))) {
            tests.forEach(t -> check("README.md names " + t, page.contains("`" + t.getFileName() + "`")));
        }
        check("README.md names .ci/run", page.contains(".ci/run"));
    }

    public static void main(String[] args) throws IOException, InterruptedException, ReflectiveOperationException {
        String page = Files.readString(README);
        theExample(page);
        theNames(page);
        System.out.println(wrong == 0 ? "README.md is as it should be" : wrong + " things are not as README.md says");
        if (wrong != 0) {
            System.exit(1);
        }
    }
}
