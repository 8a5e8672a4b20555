import java.io.IOException;
import java.lang.reflect.Method;
import java.lang.reflect.Modifier;
import java.nio.file.Files;
import java.nio.file.Path;
import java.util.ArrayList;
import java.util.Arrays;
import java.util.List;
import java.util.Set;
import java.util.TreeSet;
import java.util.concurrent.TimeUnit;
import java.util.regex.Matcher;
import java.util.regex.Pattern;
import java.util.stream.Stream;

/**
 * README.md can be followed as it stands: its example is compiled and run by its own commands, and its
 * tables are compared with the class, the document and the tests; .ci/run starts it in the project's folder.
 */
public final class ReadmeTest {
    private static final Path SOURCES = Path.of("src");
    private static final Path DOCUMENT = Path.of("../shared/DOC.md");
    private static final Path CI = Path.of(".ci/run");
    private static final String REFUSALS = "\\b(BAD|NO|NONE|FULL)\\b";

    private static String page;

    public static void main(String[] args) throws Exception {
        page = Files.readString(Path.of("README.md"));
        theExamplePrintsWhatItSays();
        oneTestAloneIsRun();
        ciIsRunByItsName();
        everyCallIsTold();
        refusalsAreTheDocuments();
        answersBelow0AreTheClasses();
        everyTestIsTold();
        Check.finish("ReadmeTest");
    }

    private static void theExamplePrintsWhatItSays() throws Exception {
        Path folder = copyOfSources();
        Files.writeString(folder.resolve("Example.java"), block("java", ""));
        String printed = outcome(folder, block("sh", "Example"));
        Check.holds("the example prints what the page says, not\n" + printed, printed.equals(block("text", "") + "ended with 0"));
        delete(folder);
    }

    private static void oneTestAloneIsRun() throws Exception {
        Path folder = copyOfSources();
        String printed = outcome(folder, block("sh", "LandsTest"));
        Check.holds("one test is run alone, not\n" + printed, printed.matches("LandsTest: \\d+ answers, 0 wrong\nended with 0"));
        delete(folder);
    }

    private static void ciIsRunByItsName() throws IOException {
        Check.holds(".ci/run is the command", block("sh", ".ci").equals(CI + "\n"));
        Check.holds(".ci/run can be run", Files.isExecutable(CI));
    }

    private static void everyCallIsTold() {
        Set<String> told = new TreeSet<>();
        for (String[] cells : calls()) {
            String arguments = cells[1].substring(cells[1].indexOf('(') + 1, cells[1].indexOf(')'));
            int number = arguments.isEmpty() ? 0 : arguments.split(", ").length;
            told.add(cells[1].substring(1, cells[1].indexOf('(')) + " of " + number);
            Check.holds(cells[1] + " has a text", !cells[2].isEmpty());
        }
        Set<String> there = new TreeSet<>();
        for (Method method : BootsTurnHome.class.getDeclaredMethods()) {
            if (Modifier.isPublic(method.getModifiers())) {
                there.add(method.getName() + " of " + method.getParameterCount());
            }
        }
        Check.due("calls told", calls().size(), there.size());
        Check.holds("the calls told are " + there + ", not " + told, told.equals(there));
    }

    /** Each call's promise, names of arguments and answers below 0 are as the document's section of it has them. */
    private static void refusalsAreTheDocuments() throws IOException {
        String document = Files.readString(DOCUMENT);
        for (String[] cells : calls()) {
            Matcher section = Pattern.compile("## Promise " + cells[0] + ": \\w+\n\n`int ([^`]*)`: ([^\n]*)\n").matcher(document);
            boolean isThere = section.find();
            Check.holds("there is a promise " + cells[0], isThere);
            if (isThere) {
                String call = section.group(1).replaceAll("\\b(?:int|boolean) ", "");
                Check.holds("promise " + cells[0] + " is of " + call, cells[1].equals("`" + call + "`"));
                Check.holds(call + ": answers below 0", refusals(cells[3]).equals(refusals(section.group(2))));
            }
        }
    }

    private static void answersBelow0AreTheClasses() {
        int[] values = {BootsTurnHome.BAD, BootsTurnHome.NO, BootsTurnHome.FULL, BootsTurnHome.NONE};
        String[] names = {"BAD", "NO", "FULL", "NONE"};
        List<String[]> rows = table("| answer |");
        Check.due("answers below 0", rows.size(), names.length);
        for (int k = 0; k < Math.min(names.length, rows.size()); k++) {
            Check.holds(names[k] + " is told", rows.get(k)[0].equals("`BootsTurnHome." + names[k] + "`"));
            Check.holds(names[k] + " has its number", rows.get(k)[1].equals(Integer.toString(values[k])));
        }
    }

    private static void everyTestIsTold() throws IOException {
        Set<String> told = new TreeSet<>();
        for (String[] cells : table("| test |")) {
            told.add(cells[0]);
        }
        Set<String> there = new TreeSet<>();
        try (Stream<Path> files = Files.list(SOURCES.resolve("test/java"))) {
            files.map(file -> file.getFileName().toString()).filter(name -> name.endsWith("Test.java"))
                .forEach(name -> there.add("`" + name.replace(".java", "") + "`"));
        }
        Check.holds("the tests told are " + there + ", not " + told, told.equals(there));
    }

    // ---- what the page has

    /** The first block of the kind that has the word in it. */
    private static String block(String kind, String word) {
        Matcher block = Pattern.compile("\n```" + kind + "\n(.*?)```\n", Pattern.DOTALL).matcher(page);
        while (block.find()) {
            if (block.group(1).contains(word)) {
                return block.group(1);
            }
        }
        Check.holds("the page has a block " + kind + " with " + word, false);
        return "";
    }

    private static List<String[]> calls() {
        return table("| promise |");
    }

    /** The cells of the table whose head begins so, row by row. */
    private static List<String[]> table(String head) {
        List<String[]> rows = new ArrayList<>();
        int start = page.indexOf("\n" + head);
        Check.holds("the page has a table " + head, start >= 0);
        String[] lines = page.substring(start + 1).split("\n");
        int columns = cells(lines[0]).length;
        for (int line = 2; line < lines.length && lines[line].startsWith("|"); line++) {
            rows.add(Arrays.copyOf(cells(lines[line]), columns));
            Check.due("cells of " + lines[line], cells(lines[line]).length, columns);
        }
        return rows;
    }

    private static String[] cells(String line) {
        String[] cells = line.substring(1, line.lastIndexOf('|')).split("\\|", -1);
        for (int k = 0; k < cells.length; k++) {
            cells[k] = cells[k].trim();
        }
        return cells;
    }

    private static Set<String> refusals(String text) {
        Set<String> found = new TreeSet<>();
        Matcher refusal = Pattern.compile(REFUSALS).matcher(text);
        while (refusal.find()) {
            found.add(refusal.group());
        }
        return found;
    }

    // ---- doing what it says

    /** A folder of its own, so that following the page leaves nothing in the project's. */
    private static Path copyOfSources() throws IOException {
        Path folder = Files.createTempDirectory("readme");
        try (Stream<Path> files = Files.walk(SOURCES)) {
            for (Path file : (Iterable<Path>) files::iterator) {
                if (Files.isDirectory(file)) {
                    Files.createDirectories(folder.resolve(file));
                } else {
                    Files.copy(file, folder.resolve(file));
                }
            }
        }
        return folder;
    }

    private static String outcome(Path folder, String commands) throws Exception {
        Path printed = folder.resolve("printed");
        // -e: a command that fails ends them, as one would stop there who follows the page
        Process process = new ProcessBuilder("sh", "-e", "-c", commands).directory(folder.toFile())
            .redirectError(ProcessBuilder.Redirect.INHERIT).redirectOutput(printed.toFile()).start();
        if (!process.waitFor(120, TimeUnit.SECONDS)) {
            process.destroyForcibly();
            return "not ended";
        }
        return Files.readString(printed) + "ended with " + process.exitValue();
    }

    private static void delete(Path folder) throws IOException {
        try (Stream<Path> files = Files.walk(folder)) {
            for (Path file : (Iterable<Path>) files.sorted((a, b) -> b.compareTo(a))::iterator) {
                Files.delete(file);
            }
        }
    }
}
