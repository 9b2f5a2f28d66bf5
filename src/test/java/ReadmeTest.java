import java.io.ByteArrayOutputStream;
import java.io.IOException;
import java.io.PrintStream;
import java.lang.reflect.Field;
import java.lang.reflect.Method;
import java.lang.reflect.Modifier;
import java.nio.charset.StandardCharsets;
import java.nio.file.Files;
import java.nio.file.Path;
import java.util.ArrayList;
import java.util.Collections;
import java.util.List;
import java.util.stream.Stream;

/** README.md shows the example as it is, and what it prints, and names every method, constant and test. */
public final class ReadmeTest {
    private static final Path README = Path.of("README.md");
    private static final Path EXAMPLE = Path.of("src/example/java/Example.java");
    private static final Path TESTS = Path.of("src/test/java");

    private final Checks checks = new Checks();
    private final List<String> page;

    private ReadmeTest(List<String> page) {
        this.page = page;
    }

    public static void main(String[] args) throws IOException {
        ReadmeTest test = new ReadmeTest(Files.readAllLines(README));
        test.showsTheExample();
        test.showsWhatTheExamplePrints();
        test.namesTheFace();
        test.namesTheTests();
        test.namesFilesThatAreThere();
        test.checks.end("ReadmeTest");
    }

    private void showsTheExample() throws IOException {
        checks.begin("the example");
        List<String> shown = stripped(blocks("java").get(0));
        List<String> whole = stripped(Files.readAllLines(EXAMPLE));
        checks.isTrue("shown line by line", shown.size() > 1 && Collections.indexOfSubList(whole, shown) >= 0);
    }

    private void showsWhatTheExamplePrints() {
        checks.begin("what the example prints");
        PrintStream out = System.out;
        ByteArrayOutputStream printed = new ByteArrayOutputStream();
        System.setOut(new PrintStream(printed, true, StandardCharsets.UTF_8));
        try {
            Example.main(new String[0]);
        } finally {
            System.setOut(out);
        }
        List<String> lines = printed.toString(StandardCharsets.UTF_8).lines().toList();
        checks.due("lines", String.join("\n", lines), String.join("\n", blocks("text").get(0)));
    }

    private void namesTheFace() {
        checks.begin("the face");
        for (Method method : RoamingHouse.class.getDeclaredMethods()) {
            if (Modifier.isPublic(method.getModifiers())) {
                checks.isTrue("naming " + method.getName(), names(method.getName()));
            }
        }
        for (Field field : RoamingHouse.class.getFields()) {
            checks.isTrue("naming " + field.getName(), names(field.getName()));
        }
    }

    private void namesTheTests() throws IOException {
        checks.begin("the tests");
        try (Stream<Path> files = Files.list(TESTS)) {
            for (Path file : files.sorted().toList()) {
                String name = file.getFileName().toString().replace(".java", "");
                checks.isTrue("naming " + name, names(name));
            }
        }
        for (String line : page) {
            if (line.startsWith("java -cp out ")) {
                String name = line.substring("java -cp out ".length());
                boolean isThere = Files.exists(TESTS.resolve(name + ".java")) || name.equals("Example");
                checks.isTrue("a program " + name, isThere);
            }
        }
    }

    private void namesFilesThatAreThere() {
        checks.begin("the files");
        for (String line : page) {
            for (String word : line.split("[ `;:]+")) {
                if (word.startsWith("src/") && !word.contains("*")) {
                    checks.isTrue("a file " + word, Files.exists(Path.of(word)));
                }
            }
        }
        checks.isTrue("the script", Files.isExecutable(Path.of(".ci/run")));
    }

    private boolean names(String name) {
        return page.stream().anyMatch(line -> line.contains("`" + name + "`"));
    }

    private List<List<String>> blocks(String language) {
        List<List<String>> blocks = new ArrayList<>();
        List<String> block = null;
        for (String line : page) {
            if (line.equals("```" + language)) {
                block = new ArrayList<>();
                blocks.add(block);
            } else if (line.startsWith("```")) {
                block = null;
            } else if (block != null) {
                block.add(line);
            }
        }
        return blocks;
    }

    private static List<String> stripped(List<String> lines) {
        return lines.stream().map(String::strip).toList();
    }
}
