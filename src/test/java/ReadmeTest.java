import java.io.IOException;
import java.lang.reflect.Method;
import java.lang.reflect.Modifier;
import java.nio.file.DirectoryStream;
import java.nio.file.Files;
import java.nio.file.Path;
import java.util.List;
import java.util.TreeSet;
import java.util.regex.Matcher;
import java.util.regex.Pattern;

/** That README.md and EDGES.md tell what is there; the examples and ways of README.md are run by .ci/run. */
public final class ReadmeTest {
    public static void main(String[] args) throws IOException {
        List<String> readme = Files.readAllLines(Path.of("README.md"));
        testsAreNamed(readme);
        callsAreShown(readme);
        namesAreTold(readme);
        edgesAreTested(Files.readAllLines(Path.of("src/test/EDGES.md")));
        Check.end();
    }

    private static void testsAreNamed(List<String> readme) throws IOException {
        TreeSet<String> named = new TreeSet<>();
        for (String line : readme) {
            if (line.matches("\\| `\\w+Test` \\|.*")) {
                named.add(line.substring(3, line.indexOf('`', 3)));
            }
        }
        TreeSet<String> there = new TreeSet<>();
        try (DirectoryStream<Path> files = Files.newDirectoryStream(Path.of("src/test/java"))) {
            for (Path file : files) {
                there.add(file.getFileName().toString().replace(".java", ""));
            }
        }
        Check.due("tests that README.md names", named.toString(), there.toString());
    }

    private static void callsAreShown(List<String> readme) {
        String shown = String.join("\n", readme);
        for (Method method : PrefixCodes.class.getDeclaredMethods()) {
            boolean open = Modifier.isPublic(method.getModifiers());
            if (open && !shown.contains("x." + method.getName() + "(")) {
                Check.tell("README.md does not show " + method.getName());
            }
        }
    }

    private static void namesAreTold(List<String> readme) {
        String[] names = {"UNKNOWN", "OUTSIDE", "STATE", "ENDED", "BAD", "ROOM", "NONE"};
        String told = String.join("\n", readme);
        for (String name : names) {
            if (!told.contains("\n| `" + name + "` |") || !told.contains("// " + name)) {
                Check.tell("README.md does not tell and show " + name);
            }
        }
    }

    /** Each `SomeTest.method` of a row, or `.method` behind one, is a method of that test. */
    private static void edgesAreTested(List<String> edges) throws IOException {
        Pattern named = Pattern.compile("`(\\w+Test)?\\.(\\w+)`");
        int found = 0;
        for (String row : edges) {
            String test = "";
            Matcher names = named.matcher(row);
            while (names.find()) {
                test = names.group(1) == null ? test : names.group(1);
                Path source = Path.of("src/test/java/" + test + ".java");
                if (!Files.exists(source) || !Files.readString(source).contains(" void " + names.group(2) + "(")) {
                    Check.tell("EDGES.md names " + test + "." + names.group(2) + ", which is not there");
                }
                found++;
            }
        }
        Check.due("EDGES.md names tests", found > 0 ? 1 : 0, 1);
    }
}
