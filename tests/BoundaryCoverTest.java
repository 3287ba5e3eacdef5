import java.io.IOException;
import java.nio.file.Files;
import java.nio.file.Path;
import java.util.ArrayList;
import java.util.Comparator;
import java.util.List;
import java.util.regex.Matcher;
import java.util.regex.Pattern;
import java.util.stream.Stream;

/** No words of the document that name a boundary stand outside the sentences that the boundary tests are about. */
public final class BoundaryCoverTest {
    private static final String[] SIGNS = {"at most", "at least", " .. ", "none", "no such", "NONE:", "HIDDEN:",
        "empty", "refused", "of several", "of like", "cut", "going round", "STOPPED", "latest", "false", "False",
        "out of bounds", "beyond", "fewer", "whatever", "never"};

    private BoundaryCoverTest() {
    }

    public static void main(String[] args) throws IOException {
        Check check = new Check();
        String left = Files.readString(Path.of("../shared/DOC.md")).replaceAll("\\s+", " ");
        left = left.substring(left.indexOf("## Terms"), left.indexOf("## Not promised"));
        for (String sentence : sentences()) {
            left = left.replace(sentence, "#");
        }
        for (String sign : SIGNS) {
            int at = left.indexOf(sign);
            String near = at < 0 ? "" : left.substring(Math.max(0, at - 40), Math.min(left.length(), at + 40));
            check.due("without a test of its own: .." + near + "..", at, -1);
        }
        check.finish("BoundaryCoverTest");
    }

    /** What the tests are about, the longest first, as one may stand within another. */
    private static List<String> sentences() throws IOException {
        List<String> found = new ArrayList<>();
        Pattern about = Pattern.compile("\\.about\\(\"([^\"]*)\"\\)");
        try (Stream<Path> files = Files.list(Path.of("tests"))) {
            for (Path file : files.filter(f -> f.getFileName().toString().startsWith("Boundary")).toList()) {
                Matcher m = about.matcher(Files.readString(file));
                while (m.find()) {
                    found.add(m.group(1));
                }
            }
        }
        found.sort(Comparator.comparing(String::length).reversed());
        return found;
    }
}
