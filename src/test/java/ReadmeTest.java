import java.io.IOException;
import java.lang.reflect.Method;
import java.lang.reflect.Modifier;
import java.nio.file.DirectoryStream;
import java.nio.file.Files;
import java.nio.file.Path;
import java.util.List;
import java.util.TreeSet;

/** That README.md names every test and shows every call; its examples and ways are run by .ci/run. */
public final class ReadmeTest {
    public static void main(String[] args) throws IOException {
        List<String> readme = Files.readAllLines(Path.of("README.md"));
        testsAreNamed(readme);
        callsAreShown(readme);
        namesAreTold(readme);
        Check.end();
    }

    private static void testsAreNamed(List<String> readme) throws IOException {
        TreeSet<String> named = new TreeSet<>();
        for (String line : readme) {
            if (line.matches("\\| `\\w+Test` \\|.*")) {
                named.add(line.substring(3, line.indexOf('`', 3)));
            }
        }
        TreeSet<String> there = new TreeSet<>();
        try (DirectoryStream<Path> files = Files.newDirectoryStream(Path.of("src/test/java"))) {
            for (Path file : files) {
                there.add(file.getFileName().toString().replace(".java", ""));
            }
        }
        Check.due("tests that README.md names", named.toString(), there.toString());
    }

    private static void callsAreShown(List<String> readme) {
        String shown = String.join("\n", readme);
        for (Method method : PrefixCodes.class.getDeclaredMethods()) {
            boolean open = Modifier.isPublic(method.getModifiers());
            if (open && !shown.contains("x." + method.getName() + "(")) {
                Check.tell("README.md does not show " + method.getName());
            }
        }
    }

    private static void namesAreTold(List<String> readme) {
        String[] names = {"UNKNOWN", "OUTSIDE", "STATE", "ENDED", "BAD", "ROOM", "NONE"};
        String told = String.join("\n", readme);
        for (String name : names) {
            if (!told.contains("\n| `" + name + "` |") || !told.contains("// " + name)) {
                Check.tell("README.md does not tell and show " + name);
            }
        }
    }
}
