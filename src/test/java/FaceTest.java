import java.lang.reflect.Constructor;
import java.lang.reflect.Field;
import java.lang.reflect.Method;
import java.lang.reflect.Modifier;
import java.nio.file.Files;
import java.nio.file.Path;
import java.util.ArrayList;
import java.util.Arrays;
import java.util.List;
import java.util.TreeSet;
import java.util.regex.Pattern;

/** The face as the document tells it, and what of LANGUAGE.md can be seen from outside. */
public final class FaceTest {
    private static final String[] METHODS = {
        "int about(int, int)", "int add(int, int, int, int, int)", "int bit(int) throws", "int bits()",
        "int choose(int, int, int, int)", "int clear()", "int code(int)", "long cost(int)", "int count(int, int)",
        "int countText()", "int entry(int, int) throws", "int forget()", "int group(int)", "int least(int, int)",
        "int length(int, int, int)", "int pack(int, int)", "int put(int, int, boolean)", "int putNumber(int, int)",
        "int read(int, int, int, int)", "int symbol(int) throws", "int table(int, int)", "int take(int, boolean)",
        "int takeNumber(int)", "int unpack(int, int)", "int word(int, int, boolean)", "int write()"
    };
    private static final String[] CONSTANTS = {
        "BAD=-105", "ENDED=-104", "NONE=-1", "OUTSIDE=-102", "ROOM=-106", "STATE=-103", "UNKNOWN=-101"
    };
    private static final String[] NOT_IN_THE_LANGUAGE = {
        "->", "::", "\\btry\\b", "\\bcatch\\b", "\\bfinally\\b", "\\bsynchronized\\b", "\\bassert\\b", "Exact\\(",
        "^package\\b", "static \\{", "System\\.(?!arraycopy)", "\\bRandom\\b", "java\\.(?!util\\.Arrays;)", "\\bThread\\b",
        "\\bhashCode\\b", "\\bdouble\\b", "\\bfloat\\b", "\\bprotected\\b"
    };

    public static void main(String[] args) throws Exception {
        methods();
        constants();
        membersAreHidden();
        nothingIsInherited();
        classesInside();
        source();
        Check.end();
    }

    private static String told(Method method) {
        List<String> types = new ArrayList<>();
        for (Class<?> type : method.getParameterTypes()) {
            types.add(type.getName());
        }
        Class<?>[] thrown = method.getExceptionTypes();
        boolean outOfBounds = thrown.length == 1 && thrown[0] == IndexOutOfBoundsException.class;
        return method.getReturnType().getName() + " " + method.getName() + "(" + String.join(", ", types) + ")"
                + (outOfBounds ? " throws" : "");
    }

    private static void methods() {
        TreeSet<String> found = new TreeSet<>();
        for (Method method : PrefixCodes.class.getDeclaredMethods()) {
            if (Modifier.isPublic(method.getModifiers())) {
                found.add(told(method));
            }
        }
        Check.due("methods", found.toString(), new TreeSet<>(Arrays.asList(METHODS)).toString());
    }

    private static void constants() throws IllegalAccessException {
        TreeSet<String> found = new TreeSet<>();
        for (Field field : PrefixCodes.class.getDeclaredFields()) {
            if (Modifier.isPublic(field.getModifiers())) {
                Check.due(field.getName() + " is static and final", field.getModifiers(),
                        Modifier.PUBLIC | Modifier.STATIC | Modifier.FINAL);
                found.add(field.getName() + "=" + field.getInt(null));
            }
        }
        Check.due("constants", found.toString(), new TreeSet<>(Arrays.asList(CONSTANTS)).toString());
    }

    private static void membersAreHidden() {
        Check.due("the class", PrefixCodes.class.getModifiers(), Modifier.PUBLIC | Modifier.FINAL);
        Constructor<?>[] constructors = PrefixCodes.class.getDeclaredConstructors();
        Check.due("constructors", constructors.length, 1);
        Check.due("the constructor is public", constructors[0].getModifiers(), Modifier.PUBLIC);
        Check.due("the constructor takes nothing", constructors[0].getParameterCount(), 0);
        TreeSet<String> publicNames = new TreeSet<>();
        for (Method method : PrefixCodes.class.getDeclaredMethods()) {
            if (Modifier.isPublic(method.getModifiers())) {
                publicNames.add(method.getName());
            }
        }
        for (Method method : PrefixCodes.class.getDeclaredMethods()) {
            boolean hidden = Modifier.isPrivate(method.getModifiers());
            if (!hidden && !Modifier.isPublic(method.getModifiers())) {
                Check.tell(method + " is neither public nor private");
            }
            if (hidden && publicNames.contains(method.getName())) {
                Check.tell(method + " bears the name of a public one");
            }
        }
        for (Field field : PrefixCodes.class.getDeclaredFields()) {
            if (!Modifier.isPublic(field.getModifiers()) && !Modifier.isPrivate(field.getModifiers())) {
                Check.tell(field + " is neither public nor private");
            }
        }
    }

    /** What a class above it or an interface has could be seen from outside, too. */
    private static void nothingIsInherited() {
        Check.due("the class above", PrefixCodes.class.getSuperclass().getName(), "java.lang.Object");
        Check.due("interfaces", PrefixCodes.class.getInterfaces().length, 0);
        Check.due("public classes inside", PrefixCodes.class.getClasses().length, 0);
        Check.due("package", PrefixCodes.class.getPackageName(), "");
    }

    private static void classesInside() {
        Class<?>[] inside = PrefixCodes.class.getDeclaredClasses();
        if (inside.length > 12) {
            Check.tell(inside.length + " classes inside");
        }
        for (Class<?> one : inside) {
            if (!Modifier.isStatic(one.getModifiers()) || Modifier.isPublic(one.getModifiers())) {
                Check.tell(one + " is public or not static");
            }
            for (Method method : one.getDeclaredMethods()) {
                if (method.getParameterCount() > 7) {
                    Check.tell(method + " takes more than seven");
                }
            }
            for (Field field : one.getDeclaredFields()) {
                if (Modifier.isStatic(field.getModifiers()) && !Modifier.isFinal(field.getModifiers())) {
                    Check.tell(field + " is static and changes");
                }
            }
        }
    }

    private static void source() throws Exception {
        for (String line : Files.readAllLines(Path.of("src/main/java/PrefixCodes.java"))) {
            for (String pattern : NOT_IN_THE_LANGUAGE) {
                if (Pattern.compile(pattern).matcher(line).find()) {
                    Check.tell("not in the language: " + line.strip());
                }
            }
        }
    }
}
