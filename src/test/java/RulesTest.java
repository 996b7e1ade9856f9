import java.io.IOException;
import java.lang.reflect.Constructor;
import java.lang.reflect.Field;
import java.lang.reflect.Method;
import java.lang.reflect.Modifier;
import java.nio.file.Files;
import java.nio.file.Path;
import java.util.Arrays;
import java.util.Set;
import java.util.TreeSet;
import java.util.regex.Matcher;
import java.util.regex.Pattern;

/** The public face, its constants, and those rules of LANGUAGE.md that can be seen from outside. */
public final class RulesTest {
    private static final Due due = new Due();
    private static final String[] FACE = {
        "int boxes(int)", "int line(int, int, int, int)", "int about(int, int)", "int weigh(int, int)",
        "int mark(int, int, boolean)", "int load(int, int, int, int)", "int least(int, int)", "int next(int, int)",
        "long share(int, int, int, int, int)", "long on(int, int, int, int)", "long worst(int, int)",
        "int guard(boolean)", "long all(int)", "int parted(int, int)", "int who(int, int, int)",
        "int seek(int, int)", "int sought(int)", "long better(int)", "int take()", "int ring(int, int)",
        "int between(int, int)", "int value(int, int, int)", "long grow(int, int)", "int year(int, int)",
        "int told(int)"};

    public static void main(String[] args) throws IOException {
        constants();
        face();
        classesInside();
        words();
        due.finish();
    }

    private static void constants() {
        due.is("UNKNOWN", WayWeights.UNKNOWN, -1);
        due.is("OUTSIDE", WayWeights.OUTSIDE, -2);
        due.is("STATE", WayWeights.STATE, -3);
        due.is("FULL", WayWeights.FULL, -4);
        due.is("NO", WayWeights.NO, -5);
        due.is("NONE", WayWeights.NONE, -6);
        due.is("LOST", WayWeights.LOST, -1000000000000000000L);
    }

    private static String signature(Method method) {
        String types = Arrays.toString(Arrays.stream(method.getParameterTypes()).map(Class::getName).toArray());
        return method.getReturnType().getName() + " " + method.getName() + "("
                + types.substring(1, types.length() - 1) + ")";
    }

    private static void face() {
        Set<String> open = new TreeSet<>();
        Set<String> openNames = new TreeSet<>();
        for (Method method : WayWeights.class.getDeclaredMethods()) {
            if (!Modifier.isPrivate(method.getModifiers())) {
                due.holds(method + " is public", Modifier.isPublic(method.getModifiers()));
                open.add(signature(method));
                openNames.add(method.getName());
            }
        }
        due.holds("the face is as told: " + open, open.equals(new TreeSet<>(Arrays.asList(FACE))));
        for (Method method : WayWeights.class.getDeclaredMethods()) {
            due.holds(method + " has a name of its own",
                    Modifier.isPublic(method.getModifiers()) || !openNames.contains(method.getName()));
        }
        Set<String> fields = new TreeSet<>();
        for (Field field : WayWeights.class.getDeclaredFields()) {
            if (!Modifier.isPrivate(field.getModifiers())) {
                fields.add(field.getName());
            }
        }
        due.holds("the constants are as told: " + fields, fields.equals(new TreeSet<>(Arrays.asList(
                "UNKNOWN", "OUTSIDE", "STATE", "FULL", "NO", "NONE", "LOST"))));
        Constructor<?>[] constructors = WayWeights.class.getDeclaredConstructors();
        due.is("constructors", constructors.length, 1);
        due.holds("the constructor is public", Modifier.isPublic(constructors[0].getModifiers()));
        due.holds("the class is final", Modifier.isFinal(WayWeights.class.getModifiers()));
    }

    private static void classesInside() {
        Class<?>[] inside = WayWeights.class.getDeclaredClasses();
        due.holds("at most twelve classes", inside.length + 1 <= 12);
        limits(WayWeights.class);
        for (Class<?> one : inside) {
            due.holds(one + " is static", Modifier.isStatic(one.getModifiers()));
            due.holds(one + " is not open", !Modifier.isPublic(one.getModifiers())
                    && !Modifier.isProtected(one.getModifiers()));
            limits(one);
        }
    }

    private static void limits(Class<?> one) {
        int fields = 0;
        for (Field field : one.getDeclaredFields()) {
            boolean isStatic = Modifier.isStatic(field.getModifiers());
            due.holds(field + " is final, if it is static", !isStatic || Modifier.isFinal(field.getModifiers()));
            fields += isStatic ? 0 : 1;
        }
        due.holds(one + " has at most twenty fields", fields <= 20);
        for (Method method : one.getDeclaredMethods()) {
            due.holds(method + " takes at most seven", method.getParameterCount() <= 7);
        }
    }

    private static void words() throws IOException {
        String text = Files.readString(Path.of("src/main/java/WayWeights.java"));
        String code = text.replaceAll("(?s)/\\*.*?\\*/", " ").replaceAll("//[^\n]*", " ");
        Matcher wrong = Pattern.compile(
                "\\b(throw|throws|try|catch|synchronized|assert|package|\\w+Exact|System\\.(?!arraycopy)\\w+)\\b|->|::")
                .matcher(code);
        while (wrong.find()) {
            due.holds("the code is without " + wrong.group(), false);
        }
        Matcher imports = Pattern.compile("import ([^;]*);").matcher(code);
        while (imports.find()) {
            due.holds("import of " + imports.group(1), imports.group(1).equals("java.util.Arrays"));
        }
        due.holds("characters up to 255", text.chars().allMatch(c -> c < 256));
    }
}
