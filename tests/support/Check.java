import java.util.NoSuchElementException;

/** What the project's tests share: texts brought to the tape, answers compared, a last word. */
final class Check {
    private int wrong = 0;
    private int seen = 0;

    void due(String call, long got, long want) {
        seen++;
        if (got != want) {
            wrong++;
            if (wrong <= 40) {
                System.out.println(call + " answered " + got + ", due is " + want);
            }
        }
    }

    void due(String call, boolean got, boolean want) {
        due(call, got ? 1 : 0, want ? 1 : 0);
    }

    void noSuchTable(SafeBuckets x, int table, int what) {
        boolean thrown = false;
        try {
            x.table(table, what);
        } catch (NoSuchElementException e) {
            thrown = true;
        }
        due("table(" + table + ", " + what + ") throws", thrown, true);
    }

    boolean failed() {
        return wrong > 0;
    }

    void finish(String name) {
        System.out.println(name + ": " + seen + " answers, " + wrong + " wrong");
        if (wrong > 0) {
            System.exit(1);
        }
    }

    /** The five numbers of a feed, from a place of a text on; bytes of 0 behind its end. */
    static int[] words(String text, int from) {
        int[] words = new int[5];
        for (int i = 0; i < 20; i++) {
            int sign = from + i < text.length() ? text.charAt(from + i) & 255 : 0;
            words[i / 4] = words[i / 4] << 8 | sign;
        }
        return words;
    }

    /** The tape holds this text alone then. */
    static void tape(SafeBuckets x, String text) {
        x.end(0);
        for (int from = 0; from < text.length(); from += 20) {
            int[] w = words(text, from);
            x.feed(w[0], w[1], w[2], w[3], w[4]);
        }
    }

    static int fault(SafeBuckets x, String text, int sort) {
        tape(x, text);
        return x.fault(sort);
    }

    static int tell(SafeBuckets x, String text, int sort) {
        tape(x, text);
        return x.text(sort);
    }

    static SafeBuckets desk(String book, String... wheres) {
        SafeBuckets x = new SafeBuckets();
        if (tell(x, book, 0) < 1) {
            throw new IllegalStateException("the test's own book is wrong: " + book);
        }
        for (String where : wheres) {
            if (tell(x, where, 1) < 0) {
                throw new IllegalStateException("the test's own where is wrong: " + where);
            }
        }
        return x;
    }
}
