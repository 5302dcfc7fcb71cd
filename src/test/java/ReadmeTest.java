import java.io.File;
import java.io.IOException;
import java.lang.reflect.Method;
import java.lang.reflect.Modifier;
import java.nio.file.Files;
import java.nio.file.Path;
import java.util.List;

/** What README.md says is so; it is run where README.md lies. */
final class ReadmeTest {
    private static final Path README = Path.of("README.md");
    private static final String TESTS = "src/test/java";
    private static final Check CHECK = new Check();

    public static void main(String[] args) throws IOException {
        List<String> lines = Files.readAllLines(README);
        String text = String.join("\n", lines);
        exampleAnswers();
        exampleIsTheOneHere(lines);
        eachCallIsNamed(text);
        eachTestIsNamed(text);
        CHECK.end();
    }

    private static void due(String call, Object got, Object want) {
        CHECK.due(call, got, want);
    }

    private static void exampleAnswers() {
        CHECK.about("README.md, the example");
        RegionShares x = new RegionShares(3);
        due("x.value(0, 2.0)", x.value(0, 2.0), true);
        due("x.touches(0, 7)", x.touches(0, 7), true);
        due("x.touches(1, 7)", x.touches(1, 7), true);
        due("x.batches()", x.batches(), 2);
        due("x.batch(1)", x.batch(1), 1);
        due("x.plain()", x.plain(), 8.0);
        due("x.failAt(0, 1)", x.failAt(0, 1), true);
        due("x.act(4)", x.act(4), 0);
        due("x.act(9)", x.act(9), 0);
        due("x.act(4)", x.act(4), 2);
        due("x.run(2, 42L)", x.run(2, 42L), 3);
        due("x.joined()", x.joined(), 8.0);
        due("x.times(1)", x.times(1), 2);
        due("x.broken()", x.broken(), 1);
        due("x.live()", x.live(), 1);
        due("x.work()", x.work(), 6L);
        due("x.stop(1)", x.stop(1), true);
        due("x.run(2, 42L)", x.run(2, 42L), 2);
        due("x.joined()", x.joined(), 7.0);
        due("x.stop(1)", x.stop(1), false);
        due("x.run(1, 42L)", x.run(1, 42L), RegionShares.NONE);
        due("x.joined()", x.joined(), 7.0);
    }

    /** Each line of the example, with its answer, stands in this file too, in the same order. */
    private static void exampleIsTheOneHere(List<String> readme) throws IOException {
        CHECK.about("README.md, its example beside ReadmeTest");
        List<String> here = Files.readAllLines(Path.of(TESTS, "ReadmeTest.java")).stream().map(String::trim)
                .filter(line -> line.startsWith("due(\"x.")).toList();
        List<String> there = readme.stream().filter(line -> line.startsWith("x.")).map(ReadmeTest::asTested).toList();
        due("the example's calls", there, here);
    }

    private static String asTested(String line) {
        String call = line.substring(0, line.indexOf(';'));
        String answer = line.substring(line.indexOf("//") + 2).trim();
        return "due(\"" + call + "\", " + call + ", " + answer + ");";
    }

    private static void eachCallIsNamed(String text) {
        CHECK.about("README.md, the table of calls");
        for (Method method : RegionShares.class.getDeclaredMethods()) {
            if (Modifier.isPublic(method.getModifiers())) {
                due("a row of " + method.getName(), text.contains("\n| `" + method.getName() + "("), true);
            }
        }
    }

    private static void eachTestIsNamed(String text) {
        CHECK.about("README.md, the list of tests");
        String[] files = new File(TESTS).list((folder, name) -> name.endsWith("Test.java"));
        due("tests are found", files != null && files.length > 0, true);
        for (String file : files == null ? new String[0] : files) {
            String name = file.substring(0, file.length() - ".java".length());
            due("a line of " + name, text.contains("\n- `" + name + "`:"), true);
        }
    }
}
