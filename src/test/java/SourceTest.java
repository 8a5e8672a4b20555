import java.nio.file.Files;
import java.nio.file.Path;
import java.util.List;
import java.util.Set;
import java.util.regex.Matcher;
import java.util.regex.Pattern;

/** The rules of LANGUAGE.md that can be seen in the source's text; .ci/run starts it in the project's folder. */
public final class SourceTest {
    private static final Path SOURCE = Path.of("src/main/java/BootsTurnHome.java");
    private static final Set<String> LIBRARY = Set.of("Math.max", "Math.min", "Math.abs", "Integer.bitCount", "System.arraycopy");
    private static final List<String> UNUSED_WORDS = List.of(
        "import", "package", "try", "catch", "finally", "throw", "throws", "synchronized", "assert", "var",
        "volatile", "native", "double", "float", "goto", "protected", "Object", "Thread", "Random", "instanceof");

    public static void main(String[] args) throws Exception {
        String source = Files.readString(SOURCE);
        Check.holds("only signs 10 and 32 to 126", source.chars().allMatch(c -> c == 10 || c >= 32 && c <= 126));
        String code = withoutTexts(source);
        words(code);
        library(code);
        statics(code);
        parameters(code);
        lengths(code);
        objects(code);
        Check.finish("SourceTest");
    }

    private static String withoutTexts(String source) {
        Matcher text = Pattern.compile("/\\*.*?\\*/|//[^\n]*|\"(?:[^\"\\\\]|\\\\.)*\"", Pattern.DOTALL).matcher(source);
        // lines stay, so that lengths are right
        return text.replaceAll(found -> found.group().replaceAll("[^\n]", "_"));
    }

    private static void words(String code) {
        for (String word : UNUSED_WORDS) {
            Check.holds("rules 3, 4, 6: no " + word, !Pattern.compile("\\b" + word + "\\b").matcher(code).find());
        }
        for (String sign : new String[] {"->", "::", "static {", "@"}) {
            Check.holds("rules 2, 5: no " + sign, !code.contains(sign));
        }
    }

    private static void library(String code) {
        Matcher call = Pattern.compile("\\b([A-Z][A-Za-z]*\\.[a-z][A-Za-z]*)\\(").matcher(code);
        while (call.find()) {
            String name = call.group(1);
            Check.holds("rule 4: " + name, LIBRARY.contains(name) || name.startsWith("Ways."));
        }
    }

    private static void statics(String code) {
        Matcher field = Pattern.compile("static (?!final)[^(;={]*[;=]").matcher(code);
        Check.holds("rule 5: static fields are final", !field.find());
    }

    private static void parameters(String code) {
        Matcher list = Pattern.compile("\\b[a-z][A-Za-z]*\\(((?:[A-Za-z\\[\\]]+ [a-z][A-Za-z]*(?:, )?)+)\\) \\{").matcher(code);
        while (list.find()) {
            Check.holds("rule 11: " + list.group(), list.group(1).split(",").length <= 7);
        }
    }

    /** A method starts at a line that ends with ") {" and ends at the next } of the same depth. */
    private static void lengths(String code) {
        String[] lines = code.split("\n");
        for (int start = 0; start < lines.length; start++) {
            Matcher head = Pattern.compile("( +)(?:public |private |static |final )*[A-Za-z\\[\\]]+ [a-zA-Z]+\\(.*\\) \\{").matcher(lines[start]);
            if (head.matches() && !lines[start].contains(" else ") && !lines[start].trim().startsWith("return")) {
                int end = start;
                while (!lines[end].equals(head.group(1) + "}")) {
                    end++;
                }
                Check.holds("rule 11: some sixty lines: " + lines[start].trim(), end - start <= 60);
            }
        }
    }

    /** No call makes an object: each is a field's from the start, or made in a constructor. */
    private static void objects(String code) {
        String outsideConstructors = code.replaceAll("(?s)\n( +)(?:public )?(?:BootsTurnHome|Pile)\\([^)]*\\) \\{\n.*?\n\\1\\}\n", "\n");
        for (String line : outsideConstructors.split("\n")) {
            boolean isMaking = Pattern.compile("\\bnew\\b|toCharArray|substring|\\.clone\\(|copyOf").matcher(line).find();
            Check.holds("rule 12: " + line.trim(), !isMaking || line.matches(" +(?:private )?final [A-Za-z\\[\\]]+ [a-zA-Z]+ = new .*"));
        }
    }
}
