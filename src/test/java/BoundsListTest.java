import java.nio.file.Files;
import java.nio.file.Path;
import java.util.Set;
import java.util.TreeSet;
import java.util.regex.Matcher;
import java.util.regex.Pattern;

/** BOUNDS.md and the tests of bounds go together: each test that it names is run, each test of bounds is named. */
public final class BoundsListTest {
    private static final Path TESTS = Path.of("src/test/java");
    private static final Set<String> WHOLLY_NAMED =
        Set.of("TextBoundsTest", "HaltBoundsTest", "RowBoundsTest", "StormBoundsTest", "RefusedTest");

    public static void main(String[] args) throws Exception {
        Set<String> named = new TreeSet<>();
        Matcher test = Pattern.compile("`(\\w+Test\\.\\w+)`").matcher(Files.readString(Path.of("BOUNDS.md")));
        while (test.find()) {
            named.add(test.group(1));
        }
        Check.holds("tests are named", !named.isEmpty());
        Set<String> run = new TreeSet<>();
        for (Path file : Files.newDirectoryStream(TESTS, "*Test.java")) {
            addTestsRun(file, run);
        }
        for (String name : named) {
            Check.holds(name + " is run", run.contains(name));
        }
        for (String name : run) {
            boolean isOfBounds = WHOLLY_NAMED.contains(name.substring(0, name.indexOf('.')));
            Check.holds(name + " is named", !isOfBounds || named.contains(name) || name.equals("RefusedTest.standsAreAsTold"));
        }
        Check.finish("BoundsListTest");
    }

    /** Adds what the file's main method calls by name alone. */
    private static void addTestsRun(Path file, Set<String> run) throws Exception {
        String source = Files.readString(file);
        int start = source.indexOf("public static void main");
        String main = source.substring(start, source.indexOf("\n    }\n", start));
        Matcher call = Pattern.compile("\n +(\\w+)\\(\\w*\\);").matcher(main);
        while (call.find()) {
            run.add(file.getFileName().toString().replace(".java", "") + "." + call.group(1));
        }
    }
}
