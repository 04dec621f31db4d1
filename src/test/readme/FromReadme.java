import java.io.IOException;
import java.nio.file.Files;
import java.nio.file.Path;
import java.util.ArrayList;
import java.util.List;
import java.util.regex.Matcher;
import java.util.regex.Pattern;

/**
 * Makes out of README.md, in a folder, ReadmeExamples.java, a test of its examples, and way1.sh,
 * way2.sh, .., the ways to run tests that it tells. Fails if there are none, or an example does not
 * tell its answer.
 */
public final class FromReadme {
    private static final String MAKING = "PrefixCodes \\w+ = new PrefixCodes\\(\\);";
    private static final Pattern CALL = Pattern.compile(
            "(?:(?:int|long) (\\w+) = )?(x\\.\\w+\\(.*\\)); +// (-?\\d+|[A-Z]+|throws IndexOutOfBoundsException)(?:: .*)?");
    private static final String FENCE = "```";

    private FromReadme() {
    }

    public static void main(String[] args) throws IOException {
        List<String> readme = Files.readAllLines(Path.of(args[0]));
        Path folder = Path.of(args[1]);
        List<List<String>> examples = blocksOf(readme, "java");
        List<List<String>> ways = blocksOf(readme, "sh");
        Files.createDirectories(folder);
        Files.write(folder.resolve("ReadmeExamples.java"), testOf(joined(examples)));
        for (int i = 0; i < ways.size(); i++) {
            Files.write(folder.resolve("way" + (i + 1) + ".sh"), ways.get(i));
        }
    }

    /** All blocks of a language, without their fences. */
    private static List<List<String>> blocksOf(List<String> readme, String language) throws IOException {
        List<List<String>> blocks = new ArrayList<>();
        String open = null;
        for (String line : readme) {
            if (line.startsWith(FENCE)) {
                open = open == null ? line.substring(FENCE.length()) : null;
                if (language.equals(open)) {
                    blocks.add(new ArrayList<>());
                }
            } else if (language.equals(open)) {
                blocks.get(blocks.size() - 1).add(line);
            }
        }
        if (open != null || blocks.isEmpty()) {
            throw new IOException("README.md has no block of " + language + ", or a block without an end");
        }
        return blocks;
    }

    private static List<String> joined(List<List<String>> blocks) {
        List<String> lines = new ArrayList<>();
        for (List<String> block : blocks) {
            for (String line : block) {
                if (!line.isBlank()) {
                    lines.add(line);
                }
            }
        }
        return lines;
    }

    /** The examples once as they are shown, so that they compile so, and once with their answers looked at. */
    private static List<String> testOf(List<String> examples) throws IOException {
        List<String> test = new ArrayList<>();
        test.add("public final class ReadmeExamples {");
        test.add("    private static void shown() {");
        test.addAll(examples);
        test.add("    }");
        test.add("    public static void main(String[] args) {");
        for (String line : examples) {
            test.addAll(looked(line));
        }
        test.add("        Check.end();");
        test.add("    }");
        test.add("}");
        return test;
    }

    private static List<String> looked(String line) throws IOException {
        if (line.matches(MAKING)) {
            return List.of(line);
        }
        Matcher call = CALL.matcher(line);
        if (!call.matches()) {
            throw new IOException("README.md does not tell in its form what this answers: " + line);
        }
        String variable = call.group(1);
        String made = call.group(2);
        String answer = call.group(3);
        String what = "\"README.md: " + made + "\", ";
        if (answer.startsWith("throws")) {
            return List.of("Check.dueOutOfBounds(" + what + "() -> " + made + ");");
        }
        String due = Character.isLetter(answer.charAt(0)) ? "PrefixCodes." + answer : answer + "L";
        if (variable == null) {
            return List.of("Check.due(" + what + made + ", " + due + ");");
        }
        String declared = line.substring(0, line.indexOf(';') + 1);
        return List.of(declared, "Check.due(" + what + variable + ", " + due + ");");
    }
}
