import java.io.IOException;
import java.lang.reflect.Constructor;
import java.lang.reflect.Field;
import java.lang.reflect.Method;
import java.lang.reflect.Modifier;
import java.nio.file.Files;
import java.nio.file.Path;
import java.util.ArrayList;
import java.util.List;
import java.util.Set;
import java.util.TreeSet;
import java.util.regex.Matcher;
import java.util.regex.Pattern;

/** The rules of LANGUAGE.md that can be seen from the outside: the face, the words, the sizes. */
public final class LanguageTest {
    private static final Check C = new Check();
    private static final Set<String> FACE = Set.of("feed", "end", "fault", "text", "rule", "table", "rows",
            "countOf", "bucket", "column", "error", "border", "tried", "fewest", "add", "drop", "move", "build",
            "budget", "years", "status", "undo", "log", "where", "join", "chain", "trace", "narrow", "odds",
            "unit", "shares", "most", "image", "back", "count");

    private LanguageTest() {
    }

    public static void main(String[] args) throws IOException {
        face();
        signatures(Files.readString(Path.of("../shared/DOC.md")));
        classesInside();
        List<String> lines = Files.readAllLines(Path.of("src/main/java/SafeBuckets.java"));
        words(lines);
        methodLengths(lines);
        C.finish("LanguageTest");
    }

    private static void face() {
        Set<String> open = new TreeSet<>();
        for (Method m : SafeBuckets.class.getDeclaredMethods()) {
            if (Modifier.isPrivate(m.getModifiers())) {
                C.due("private " + m.getName() + " bears a public name", FACE.contains(m.getName()), false);
            } else {
                open.add(m.getName());
                C.due(m.getName() + " is public", Modifier.isPublic(m.getModifiers()), true);
            }
        }
        C.due("the face is the document's: " + open, open.equals(FACE), true);
        for (Field f : SafeBuckets.class.getDeclaredFields()) {
            boolean told = f.getName().equals("NONE") || f.getName().equals("HIDDEN");
            C.due(f.getName() + " is private unless told", Modifier.isPrivate(f.getModifiers()), !told);
        }
        Constructor<?>[] made = SafeBuckets.class.getDeclaredConstructors();
        C.due("one constructor", made.length, 1);
        C.due("a final class", Modifier.isFinal(SafeBuckets.class.getModifiers()), true);
    }

    /** Every line of the document's face, with its types and its exception, is what the class has. */
    private static void signatures(String document) {
        Set<String> told = new TreeSet<>();
        Pattern line = Pattern.compile("public (\\w+) (\\w+)\\(([^)]*)\\)(?: throws (\\w+))?;");
        Matcher m = line.matcher(document);
        while (m.find()) {
            String types = m.group(3).replaceAll("(\\w+) \\w+", "$1");
            told.add(m.group(1) + " " + m.group(2) + "(" + types + ")" + (m.group(4) == null ? "" : m.group(4)));
        }
        Set<String> has = new TreeSet<>();
        for (Method method : SafeBuckets.class.getDeclaredMethods()) {
            if (Modifier.isPublic(method.getModifiers())) {
                has.add(signatureOf(method));
            }
        }
        C.due("the document's face was read", told.size(), FACE.size());
        C.due("types and exceptions: told " + told + ", are " + has, has.equals(told), true);
    }

    private static String signatureOf(Method method) {
        List<String> types = new ArrayList<>();
        for (Class<?> type : method.getParameterTypes()) {
            types.add(type.getSimpleName());
        }
        StringBuilder thrown = new StringBuilder();
        for (Class<?> type : method.getExceptionTypes()) {
            thrown.append(type.getSimpleName());
        }
        return method.getReturnType() + " " + method.getName() + "(" + String.join(", ", types) + ")" + thrown;
    }

    private static void classesInside() {
        Class<?>[] inside = SafeBuckets.class.getDeclaredClasses();
        C.due("at most twelve classes", inside.length + 1 <= 12, true);
        for (Class<?> c : inside) {
            int how = c.getModifiers();
            C.due(c + " is static", Modifier.isStatic(how), true);
            C.due(c + " is not open", Modifier.isPublic(how) || Modifier.isProtected(how), false);
            int fields = 0;
            for (Field f : c.getDeclaredFields()) {
                fields += Modifier.isStatic(f.getModifiers()) ? 0 : 1;
                C.due(f + " static only if final", isLooseStatic(f), false);
            }
            C.due(c + " has some twenty fields at most", fields <= 20, true);
            for (Method m : c.getDeclaredMethods()) {
                C.due(m + " bears a public name", FACE.contains(m.getName()), false);
                C.due(m + " takes seven at most", m.getParameterCount() <= 7, true);
            }
        }
    }

    private static boolean isLooseStatic(Field f) {
        return Modifier.isStatic(f.getModifiers()) && !Modifier.isFinal(f.getModifiers());
    }

    private static void words(List<String> lines) {
        String code = withoutComments(String.join("\n", lines));
        String[] banned = {"\\bfinally\\b", "\\bsynchronized\\b", "\\bassert\\b", "->", "::", "\\bcatch\\b",
            "\\w+Exact\\b", "\\bSystem\\.(?!arraycopy)", "\\bprotected\\b", "\\bpackage\\b", "\\.hashCode\\b",
            "\\.toString\\b", "\\binterface\\b", "\\bdouble\\b", "\\bfloat\\b", "\\bstatic\\s*\\{",
            // A row's length is no divisor: its lines do not show that it is not 0.
            "[/%]\\s*\\w+\\.length\\b"};
        for (String word : banned) {
            Matcher m = Pattern.compile(word).matcher(code);
            C.due("the program uses " + word, m.find(), false);
        }
        Matcher imports = Pattern.compile("import ([\\w.]+);").matcher(code);
        while (imports.find()) {
            String name = imports.group(1);
            boolean fine = name.equals("java.util.Arrays") || name.equals("java.util.NoSuchElementException");
            C.due("import of " + name, fine, true);
        }
        Matcher math = Pattern.compile("\\b(Math|Arrays|Integer|Long)\\.(\\w+)").matcher(code);
        Set<String> known = Set.of("min", "max", "abs", "floorMod", "fill", "MAX_VALUE");
        while (math.find()) {
            C.due(math.group(), known.contains(math.group(2)), true);
        }
        C.due("one throw alone", code.split("\\bthrow\\b", -1).length - 1, 1);
    }

    private static String withoutComments(String code) {
        return code.replaceAll("(?s)/\\*.*?\\*/", "").replaceAll("//[^\n]*", "");
    }

    private static void methodLengths(List<String> lines) {
        Pattern head = Pattern.compile("^( {4}| {8})(?!\\s)[\\w\\[\\]. ]*\\([^)]*\\)[\\w ]*\\{$");
        int begun = -1;
        String close = "";
        for (int i = 0; i < lines.size(); i++) {
            Matcher m = head.matcher(lines.get(i));
            if (begun < 0 && m.matches()) {
                begun = i;
                close = m.group(1) + "}";
            } else if (begun >= 0 && lines.get(i).equals(close)) {
                C.due("lines of " + lines.get(begun).trim(), i - begun + 1 <= 60, true);
                begun = -1;
            }
        }
    }
}
