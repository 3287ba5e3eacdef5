import java.util.NoSuchElementException;
import java.util.Random;

/** Plays drawn calls on the program and, where there is one, on the model. */
final class Player {
    private static final int THROWN = -77777777;

    private final Random random;
    private final SafeBuckets x = new SafeBuckets();
    private final Model model = new Model();
    private final Check check;
    private final StringBuilder told = new StringBuilder();
    /** The sort that the text on the tape was meant as. */
    private int meant = 0;

    Player(long seed, Check check) {
        this.random = new Random(seed);
        this.check = check;
    }

    private int pick(int low, int high) {
        return low + random.nextInt(high - low + 1);
    }

    private boolean rarely(int of) {
        return random.nextInt(of) == 0;
    }

    /** Mostly within, sometimes a little or far outside. */
    private int around(int low, int high) {
        if (rarely(25)) {
            int[] far = {Integer.MIN_VALUE, Integer.MAX_VALUE, low - 1, high + 1, -1, 1 << 20, low - 2, -16};
            return far[random.nextInt(far.length)];
        }
        return pick(low, high);
    }

    private void same(String call, long got, long want) {
        if (told.length() < 60000) {
            told.append(call).append(" = ").append(want).append('\n');
        }
        boolean before = check.failed();
        check.due(call, got, want);
        if (!before && check.failed()) {
            System.out.println("---- the run up to the first wrong answer:\n" + told);
        }
    }

    private static String call(String name, long... args) {
        StringBuilder s = new StringBuilder(name).append('(');
        for (int i = 0; i < args.length; i++) {
            s.append(i > 0 ? ", " : "").append(args[i]);
        }
        return s.append(')').toString();
    }

    private void put(String text) {
        if (told.length() < 60000) {
            told.append("# tape: ").append(text).append('\n');
        }
        same("end(0)", x.end(0) ? 1 : 0, model.end(0) ? 1 : 0);
        for (int from = 0; from < text.length(); from += 20) {
            int[] w = Check.words(text, from);
            same("feed", x.feed(w[0], w[1], w[2], w[3], w[4]), model.feed(w));
        }
    }

    private String blank() {
        return rarely(9) ? "  ".substring(random.nextInt(2)) : "";
    }

    private String number(int low, int high) {
        int n = rarely(60) ? (random.nextBoolean() ? high + 1 : low - 1) : pick(low, high);
        String s = String.valueOf(Math.max(0, n));
        return rarely(20) ? "0" + s : s;
    }

    private String items(String letters, int[] low, int[] high, int often) {
        StringBuilder s = new StringBuilder();
        for (int i = 0; i < letters.length(); i++) {
            if (random.nextInt(10) < often) {
                s.append(blank()).append(letters.charAt(i)).append(blank()).append(number(low[i], high[i]));
            }
        }
        return s.toString();
    }

    String bookText() {
        StringBuilder s = new StringBuilder(blank());
        if (random.nextInt(4) > 0) {
            s.append('s').append(items("bdq", new int[] {1, 0, 1}, new int[] {8, rarely(2) ? 8 : 60, 40}, 6)).append(';');
        }
        int tables = pick(1, 3);
        int most = pick(2, 16);
        for (int i = 0; i < tables; i++) {
            s.append(blank()).append(i > 0 ? ";" : "").append('t');
            s.append('v').append(Math.max(2, rarely(4) ? pick(2, 16) : most)).append(blank());
        }
        int clauses = rarely(8) ? pick(18, 22) : pick(0, 12);
        for (int i = 0; i < clauses && s.length() < 225; i++) {
            s.append(';').append(blank()).append('r');
            s.append(items("tabn", new int[] {0, 0, 0, 1}, new int[] {tables - 1, most - 1, most - 1, 40}, 8));
        }
        return spoil(s);
    }

    String whereText() {
        StringBuilder s = new StringBuilder(blank());
        int units = rarely(12) ? 7 : pick(1, 6);
        for (int i = 0; i < units; i++) {
            s.append(i == 0 ? "" : random.nextBoolean() ? "&" : "|").append(blank());
            s.append(random.nextBoolean() ? 'a' : 'b').append(blank());
            if (rarely(4)) {
                s.append('?');
            } else {
                s.append("=<>".charAt(random.nextInt(3))).append(blank());
                s.append(number(0, rarely(8) ? 99 : 16));
            }
            s.append(blank());
        }
        return spoil(s);
    }

    private String spoil(StringBuilder s) {
        if (rarely(4) && s.length() > 0) {
            String signs = "strbdqvan;;  0123456789ab&|=<>?\u00e9\u0001";
            int at = random.nextInt(s.length());
            char sign = signs.charAt(random.nextInt(signs.length()));
            switch (random.nextInt(4)) {
                case 0: s.setCharAt(at, sign); break;
                case 1: s.insert(at, sign); break;
                case 2: s.deleteCharAt(at); break;
                default: s.setLength(at); break;
            }
        }
        return s.toString();
    }

    /** Faults of many texts, and nothing else. */
    void playTexts(int n) {
        for (int i = 0; i < n; i++) {
            put(random.nextBoolean() ? bookText() : whereText());
            same("fault(0)", x.fault(0), model.fault(0));
            same("fault(1)", x.fault(1), model.fault(1));
        }
    }

    void tellMeant(int sort) {
        meant = sort;
        put(meant == 0 ? bookText() : whereText());
        same(call("fault", meant), x.fault(meant), model.fault(meant));
        same(call("text", meant), x.text(meant), model.text(meant));
    }

    void play(int calls) {
        tellMeant(0);
        tellMeant(1);
        tellMeant(1);
        for (int i = 0; i < calls && !check.failed(); i++) {
            int which = random.nextInt(100);
            if (which < 30) {
                playAct();
            } else if (which < 55) {
                playLook();
            } else if (which < 97) {
                playQuestion();
            } else {
                playTape();
            }
        }
    }

    private void playTape() {
        switch (random.nextInt(8)) {
            case 0: tellMeant(rarely(3) ? 0 : 1); break;
            case 1: {
                int n = around(0, 30);
                same(call("end", n), x.end(n) ? 1 : 0, model.end(n) ? 1 : 0);
                break;
            }
            case 2: {
                int[] w = {random.nextInt(), random.nextInt(1 << 16), 0, 32, random.nextInt()};
                same("feed", x.feed(w[0], w[1], w[2], w[3], w[4]), model.feed(w));
                break;
            }
            case 3: {
                int s = around(0, 2);
                same(call("text", s), x.text(s), model.text(s));
                break;
            }
            case 4: same("image()", x.image(), model.image()); break;
            case 5: same("back()", x.back(), model.back()); break;
            default: {
                int s = around(0, 2);
                same(call("fault", s), x.fault(s), model.fault(s));
            }
        }
    }

    private int values() {
        return Math.max(2, x.count(0) > 0 ? x.table(0, 0) : 8);
    }

    private void playAct() {
        int t = around(0, Math.max(0, x.count(0) - 1));
        int a = around(-1, values() - 1);
        int b = around(-1, values() - 1);
        int n = rarely(3) ? around(1, 99) : around(1, 6);
        switch (random.nextInt(11)) {
            case 0: case 1: case 2:
                same(call("add", t, a, b, n), x.add(t, a, b, n), model.add(t, a, b, n));
                break;
            case 3: case 4:
                same(call("drop", t, a, b, n), x.drop(t, a, b, n), model.drop(t, a, b, n));
                break;
            case 5: case 6: {
                int c = rarely(3) ? a : around(-1, values() - 1);
                int d = rarely(3) ? b : around(-1, values() - 1);
                same(call("move", t, a, b, c, d), x.move(t, a, b, c, d), model.move(t, a, b, c, d));
                break;
            }
            case 7: {
                int c = around(0, 1);
                same(call("build", t, c), x.build(t, c), model.build(t, c));
                break;
            }
            case 8: {
                int q = rarely(3) ? around(1, 999) : around(1, 12);
                same(call("budget", q), x.budget(q), model.budget(q));
                break;
            }
            case 9: {
                int y = rarely(4) ? around(1, 40) : around(1, 4);
                long seed = random.nextLong();
                same(call("years", y, seed), x.years(y, seed), model.years(y, seed));
                break;
            }
            default: same("undo()", x.undo(), model.undo()); break;
        }
    }

    private void playLook() {
        int t = around(0, Math.max(0, x.count(0) - 1));
        int o = around(0, Math.max(0, x.count(0) - 1));
        int w = around(0, Math.max(0, x.count(1) - 1));
        int c = around(0, 1);
        int d = around(0, 1);
        switch (random.nextInt(6)) {
            case 0: case 1: {
                int what = around(0, 3);
                same(call("where", t, w, what), x.where(t, w, what), model.where(t, w, what));
                break;
            }
            case 2: {
                int what = around(0, 3);
                same(call("join", t, c, o, d, what), x.join(t, c, o, d, what), model.join(t, c, o, d, what));
                break;
            }
            case 3: {
                int what = around(0, 1);
                same(call("chain", what), x.chain(what), model.chain(what));
                break;
            }
            case 4: {
                int what = around(0, 1);
                same(call("narrow", t, w, what), x.narrow(t, w, what), model.narrow(t, w, what));
                break;
            }
            default: {
                int k = around(1, 4);
                int what = around(0, 1);
                same(call("odds", t, w, k, what), x.odds(t, w, k, what), model.odds(t, w, k, what));
            }
        }
    }

    private static long tableOf(SafeBuckets x, int t, int what) {
        try {
            return x.table(t, what);
        } catch (NoSuchElementException e) {
            return THROWN;
        }
    }

    private static long tableOf(Model m, int t, int what) {
        try {
            return m.table(t, what);
        } catch (NoSuchElementException e) {
            return THROWN;
        }
    }

    private void playQuestion() {
        int t = around(0, Math.max(0, x.count(0) - 1));
        int c = around(0, 1);
        int k = around(1, values());
        int i = around(0, 8);
        int what = around(0, 3);
        int a = around(-1, values());
        int b = around(-1, values());
        switch (random.nextInt(18)) {
            case 0: same(call("rule", what), x.rule(what), model.rule(what)); break;
            case 1: same(call("table", t, what), tableOf(x, t, what), tableOf(model, t, what)); break;
            case 2: same(call("rows", t, a, b), x.rows(t, a, b), model.rows(t, a, b)); break;
            case 3: same(call("countOf", t, c, a), x.countOf(t, c, a), model.countOf(t, c, a)); break;
            case 4: case 5: case 6:
                same(call("bucket", t, c, i, what), x.bucket(t, c, i, what), model.bucket(t, c, i, what));
                break;
            case 7: case 8: same(call("column", t, c, what), x.column(t, c, what), model.column(t, c, what)); break;
            case 9: same(call("error", t, c, k), x.error(t, c, k), model.error(t, c, k)); break;
            case 10: same(call("border", t, c, k, i), x.border(t, c, k, i), model.border(t, c, k, i)); break;
            case 11: same(call("tried", t, c, k, what), x.tried(t, c, k, what), model.tried(t, c, k, what)); break;
            case 12: {
                long e = rarely(3) ? random.nextInt(3) - 1 : model.error(t, c, k) + random.nextInt(3) - 1;
                same(call("fewest", t, c, e), x.fewest(t, c, e), model.fewest(t, c, e));
                break;
            }
            case 13: {
                int s = around(0, 4);
                same(call("status", s), x.status(s), model.status(s));
                same(call("count", s + 1), x.count(s + 1), model.count(s + 1));
                break;
            }
            case 14: {
                int l = around(0, 64);
                same(call("log", l, what), x.log(l, what), model.log(l, what));
                same(call("trace", i), x.trace(i), model.trace(i));
                break;
            }
            case 15: {
                int w = around(0, 3);
                same(call("unit", w, i, what), x.unit(w, i, what), model.unit(w, i, what));
                break;
            }
            case 16: {
                int many = around(0, 999);
                same(call("shares", t, many), x.shares(t, many), model.shares(t, many));
                break;
            }
            default: {
                int m = around(0, 5);
                same(call("most", m), x.most(m), model.most(m));
            }
        }
    }

    /** Many acts behind one another: the limits of the log, of what can be undone, of rows. */
    void playLong() {
        put("sd7b4;tv5;tv3;ra1b2n30;rt1a0n9");
        same("text(0)", x.text(0), model.text(0));
        for (int round = 0; round < 6 && !check.failed(); round++) {
            long seed = random.nextLong();
            int years = pick(20, 40);
            same(call("years", years, seed), x.years(years, seed), model.years(years, seed));
            for (int i = 0; i < 3; i++) {
                playAct();
            }
            if (rarely(3)) {
                same("image()", x.image(), model.image());
            }
            readLog();
            int undone = pick(0, 42);
            for (int i = 0; i < undone; i++) {
                same("undo()", x.undo(), model.undo());
            }
            readLog();
            readBuckets();
            if (rarely(3)) {
                same("back()", x.back(), model.back());
                readLog();
                readBuckets();
            }
        }
    }

    private void readLog() {
        for (int what = 0; what < 6; what++) {
            same(call("count", what), x.count(what), model.count(what));
        }
        for (int i = -1; i < 62; i++) {
            for (int what = 0; what < 3; what++) {
                same(call("log", i, what), x.log(i, what), model.log(i, what));
            }
        }
    }

    private void readBuckets() {
        for (int t = 0; t < 3; t++) {
            for (int c = 0; c < 2; c++) {
                for (int i = 0; i < 8; i++) {
                    for (int what = 0; what < 4; what++) {
                        same(call("bucket", t, c, i, what), x.bucket(t, c, i, what), model.bucket(t, c, i, what));
                    }
                }
                same(call("column", t, c, 1), x.column(t, c, 1), model.column(t, c, 1));
            }
        }
    }
}
