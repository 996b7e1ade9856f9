import java.io.IOException;
import java.lang.reflect.Method;
import java.nio.file.Files;
import java.nio.file.Path;
import java.util.ArrayList;
import java.util.Arrays;
import java.util.HashMap;
import java.util.List;
import java.util.Map;
import java.util.Set;
import java.util.TreeSet;
import java.util.regex.Matcher;
import java.util.regex.Pattern;

/** README.md: its calls answer what stands beside them, its commands work, and it names every test. */
public final class ReadmeTest {
    private static final Due due = new Due();
    private static final Pattern CALL = Pattern.compile("(?:int (\\w+) = )?net\\.(\\w+)\\(([^)]*)\\);");
    private static final String FIRST = "WayWeights net = new WayWeights();";
    private static final String ALL_TESTS = ".ci/run";

    private final WayWeights net = new WayWeights();
    private final Map<String, Integer> names = new HashMap<>();
    private final Set<String> shown = new TreeSet<>();

    public static void main(String[] args) throws IOException, InterruptedException, ReflectiveOperationException {
        String text = Files.readString(Path.of("README.md"));
        calls(text);
        commands(text);
        tests(text);
        due.finish();
    }

    private static List<String> blocks(String text, String kind) {
        List<String> blocks = new ArrayList<>();
        Matcher block = Pattern.compile("(?s)```" + kind + "\n(.*?)```").matcher(text);
        while (block.find()) {
            blocks.add(block.group(1).strip());
        }
        return blocks;
    }

    private static void calls(String text) throws ReflectiveOperationException {
        List<String> blocks = blocks(text, "java");
        due.is("blocks of calls", blocks.size(), 1);
        ReadmeTest shown = new ReadmeTest();
        for (String block : blocks) {
            for (String line : block.lines().toList()) {
                shown.check(line);
            }
        }
        Set<String> face = new TreeSet<>();
        for (Method method : WayWeights.class.getMethods()) {
            if (method.getDeclaringClass() == WayWeights.class) {
                face.add(method.getName());
            }
        }
        due.holds("every call is shown: " + shown.shown, shown.shown.equals(face));
    }

    private void check(String line) throws ReflectiveOperationException {
        String[] sides = line.split("//", 2);
        String code = sides[0].strip();
        if (code.isEmpty() || code.equals(FIRST)) {
            return;
        }
        String[] answers = (sides.length > 1 ? sides[1] : "").strip().split(":", 2)[0].split(" / ");
        Matcher call = CALL.matcher(code);
        int i = 0;
        int end = 0;
        while (call.find()) {
            due.holds(line + " has calls alone", code.substring(end, call.start()).isBlank());
            due.holds(line + " has an answer for each call", i < answers.length);
            long want = Long.parseLong(answers[Math.min(i, answers.length - 1)].strip());
            due.is(call.group(), ask(call), want);
            end = call.end();
            i++;
        }
        due.holds(line + " has calls alone", end > 0 && code.substring(end).isBlank());
        due.is("answers of " + line, answers.length, i);
    }

    private long ask(Matcher call) throws ReflectiveOperationException {
        String[] words = call.group(3).isBlank() ? new String[0] : call.group(3).split(", *");
        for (Method method : WayWeights.class.getMethods()) {
            if (method.getName().equals(call.group(2)) && method.getParameterCount() == words.length) {
                shown.add(method.getName());
                long answer = answer(method, words);
                if (call.group(1) != null) {
                    names.put(call.group(1), (int) answer);
                }
                return answer;
            }
        }
        due.holds("there is a call " + call.group(), false);
        return 0;
    }

    private long answer(Method method, String[] words) throws ReflectiveOperationException {
        Object[] at = new Object[words.length];
        for (int i = 0; i < at.length; i++) {
            boolean isFlag = method.getParameterTypes()[i] == boolean.class;
            at[i] = isFlag ? (Object) Boolean.valueOf(words[i]) : (Object) number(words[i]);
        }
        return ((Number) method.invoke(net, at)).longValue();
    }

    private Integer number(String word) {
        return names.containsKey(word) ? names.get(word) : Integer.valueOf(word);
    }

    private static void commands(String text) throws IOException, InterruptedException {
        List<String> blocks = blocks(text, "sh");
        due.holds("it tells how all tests are run", blocks.contains(ALL_TESTS));
        due.holds(ALL_TESTS + " can be run", Files.isExecutable(Path.of(ALL_TESTS)));
        for (String block : blocks) {
            // This test is part of all tests: to run those here would have no end.
            if (!block.equals(ALL_TESTS)) {
                Process process = new ProcessBuilder("sh", "-e", "-c", block).inheritIO().start();
                due.is("exit of " + block, process.waitFor(), 0);
            }
        }
    }

    private static void tests(String text) {
        String[] files = Path.of("src/test/java").toFile().list();
        for (String file : files == null ? new String[0] : files) {
            String name = file.replace(".java", "");
            due.holds("it names " + name, !name.endsWith("Test") || text.contains("`" + name + "`"));
        }
        due.holds("there are tests", files != null && Arrays.asList(files).contains("ReadmeTest.java"));
    }
}
