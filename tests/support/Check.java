import java.io.IOException;
import java.nio.file.Files;
import java.nio.file.Path;
import java.util.NoSuchElementException;
import java.util.Set;
import java.util.TreeSet;

/** What the project's tests share: texts brought to the tape, answers compared, a last word. */
final class Check {
    private int wrong = 0;
    private int seen = 0;
    private final Set<String> sentences = new TreeSet<>();
    private String document = null;
    /** The sentence that answers are about now; empty if they are about none. */
    private String sentence = "";
    private int seenAhead = 0;

    void due(String call, long got, long want) {
        seen++;
        if (got != want) {
            wrong++;
            if (wrong <= 40) {
                String where = sentence.isEmpty() ? "" : "[" + sentence + "] ";
                System.out.println(where + call + " answered " + got + ", due is " + want);
            }
        }
    }

    /** The answers from here on are about a sentence of the document, told word for word, each once. */
    void about(String words) {
        endSentence();
        if (document == null) {
            document = readDocument();
        }
        due("the document says: " + words, document.contains(words), true);
        due("a test of its own: " + words, sentences.add(words), true);
        sentence = words;
        seenAhead = seen;
    }

    private void endSentence() {
        if (!sentence.isEmpty()) {
            due("has answers", seen > seenAhead, true);
        }
    }

    /** Its lines are joined, as a sentence may go over several. */
    private static String readDocument() {
        try {
            return Files.readString(Path.of("../shared/DOC.md")).replaceAll("\\s+", " ");
        } catch (IOException e) {
            throw new IllegalStateException("no ../shared/DOC.md: " + e);
        }
    }

    void due(String call, boolean got, boolean want) {
        due(call, got ? 1 : 0, want ? 1 : 0);
    }

    void noSuchTable(SafeBuckets x, int table, int what) {
        boolean thrown = false;
        try {
            x.table(table, what);
        } catch (NoSuchElementException e) {
            thrown = true;
        }
        due("table(" + table + ", " + what + ") throws", thrown, true);
    }

    boolean failed() {
        return wrong > 0;
    }

    void finish(String name) {
        endSentence();
        String of = sentences.isEmpty() ? "" : " to " + sentences.size() + " sentences";
        System.out.println(name + ": " + seen + " answers" + of + ", " + wrong + " wrong");
        if (wrong > 0) {
            System.exit(1);
        }
    }

    /** Numbers that are not from low to high: next to them, and as far away as there are. */
    static int[] outside(int low, int high) {
        return new int[] {Integer.MIN_VALUE, low - 2, low - 1, high + 1, high + 2, Integer.MAX_VALUE};
    }

    /** The five numbers of a feed, from a place of a text on; bytes of 0 behind its end. */
    static int[] words(String text, int from) {
        int[] words = new int[5];
        for (int i = 0; i < 20; i++) {
            int sign = from + i < text.length() ? text.charAt(from + i) & 255 : 0;
            words[i / 4] = words[i / 4] << 8 | sign;
        }
        return words;
    }

    /** The tape holds this text alone then. */
    static void tape(SafeBuckets x, String text) {
        x.end(0);
        for (int from = 0; from < text.length(); from += 20) {
            int[] w = words(text, from);
            x.feed(w[0], w[1], w[2], w[3], w[4]);
        }
    }

    static int fault(SafeBuckets x, String text, int sort) {
        tape(x, text);
        return x.fault(sort);
    }

    static int tell(SafeBuckets x, String text, int sort) {
        tape(x, text);
        return x.text(sort);
    }

    /** An object without a book. */
    static SafeBuckets whereAlone(String where) {
        SafeBuckets x = new SafeBuckets();
        if (tell(x, where, 1) < 0) {
            throw new IllegalStateException("the test's own where is wrong: " + where);
        }
        return x;
    }

    static SafeBuckets desk(String book, String... wheres) {
        SafeBuckets x = new SafeBuckets();
        if (tell(x, book, 0) < 1) {
            throw new IllegalStateException("the test's own book is wrong: " + book);
        }
        for (String where : wheres) {
            if (tell(x, where, 1) < 0) {
                throw new IllegalStateException("the test's own where is wrong: " + where);
            }
        }
        return x;
    }
}
