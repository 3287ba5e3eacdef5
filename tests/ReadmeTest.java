import java.io.IOException;
import java.lang.reflect.InvocationTargetException;
import java.lang.reflect.Method;
import java.lang.reflect.Modifier;
import java.nio.file.Files;
import java.nio.file.Path;
import java.util.List;
import java.util.regex.Matcher;
import java.util.regex.Pattern;
import java.util.stream.Stream;

/** README.md: its examples answer as they say, and it names every call of the face and every test. */
public final class ReadmeTest {
    private static final Check C = new Check();
    private static final Pattern NEW = Pattern.compile("SafeBuckets desk = new SafeBuckets\\(\\);");
    private static final Pattern TELL =
            Pattern.compile("Check\\.tell\\(desk, \"([^\"]*)\", (\\d)\\);\\s*// (-?\\d+)(: .*)?");
    private static final Pattern CALL =
            Pattern.compile("desk\\.(\\w+)\\(([^)]*)\\);\\s*// (-?\\d+|throws \\w+)(: .*)?");

    private SafeBuckets desk = null;
    private int calls = 0;

    private ReadmeTest() {
    }

    public static void main(String[] args) throws IOException, IllegalAccessException {
        String page = Files.readString(Path.of("README.md"));
        new ReadmeTest().playExamples(page.split("\n"));
        namesFace(page);
        namesTests(page);
        C.finish("ReadmeTest");
    }

    private void playExamples(String[] lines) throws IllegalAccessException {
        boolean inside = false;
        for (String line : lines) {
            if (line.startsWith("```")) {
                inside = line.equals("```java");
            } else if (inside) {
                play(line);
            }
        }
        C.due("the examples have calls", calls > 30, true);
    }

    private void play(String line) throws IllegalAccessException {
        Matcher tell = TELL.matcher(line);
        Matcher call = CALL.matcher(line);
        if (NEW.matcher(line).matches()) {
            desk = new SafeBuckets();
        } else if (desk != null && tell.matches()) {
            int sort = Integer.parseInt(tell.group(2));
            C.due(line, Check.tell(desk, tell.group(1), sort), Long.parseLong(tell.group(3)));
            calls++;
        } else if (desk != null && call.matches()) {
            String answer = answerOf(call.group(1), call.group(2));
            C.due(line + " (answered " + answer + ")", answer.equals(call.group(3)), true);
            calls++;
        } else {
            C.due("a line of an example that can't be played: " + line, false, true);
        }
    }

    private String answerOf(String name, String told) throws IllegalAccessException {
        String[] words = told.isEmpty() ? new String[0] : told.split(", *");
        Method method = faceMethod(name);
        if (method == null || method.getParameterCount() != words.length) {
            return "no such call";
        }
        Object[] args = new Object[words.length];
        for (int i = 0; i < words.length; i++) {
            long n = Long.decode(words[i]);
            args[i] = method.getParameterTypes()[i] == long.class ? (Object) n : (Object) (int) n;
        }
        try {
            return String.valueOf(method.invoke(desk, args));
        } catch (InvocationTargetException e) {
            return "throws " + e.getCause().getClass().getSimpleName();
        }
    }

    private static Method faceMethod(String name) {
        for (Method m : SafeBuckets.class.getDeclaredMethods()) {
            if (Modifier.isPublic(m.getModifiers()) && m.getName().equals(name)) {
                return m;
            }
        }
        return null;
    }

    private static void namesFace(String page) {
        String calls = page.substring(page.indexOf("### The calls"), page.indexOf("## Tests"));
        for (Method m : SafeBuckets.class.getDeclaredMethods()) {
            if (Modifier.isPublic(m.getModifiers())) {
                C.due("README.md names " + m.getName(), calls.contains("`" + m.getName() + "`"), true);
            }
        }
    }

    private static void namesTests(String page) throws IOException {
        C.due("README.md names .ci/run", page.contains("`.ci/run`"), true);
        C.due("README.md names the shared tests", page.contains("`../shared/tests/*.java`"), true);
        try (Stream<Path> files = Files.list(Path.of("tests"))) {
            List<String> tests = files.map(Path::toString).filter(f -> f.endsWith("Test.java")).sorted().toList();
            for (String test : tests) {
                C.due("README.md names " + test, page.contains("`" + test + "`"), true);
            }
        }
    }
}
