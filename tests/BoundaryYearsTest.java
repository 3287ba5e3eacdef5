import java.math.BigInteger;

/** Boundary cases of years, images, counts and of all that is refused (promises 21, 34 to 36, terms 4). */
public final class BoundaryYearsTest {
    private static final int NONE = SafeBuckets.NONE;
    private static final int HIDDEN = SafeBuckets.HIDDEN;
    private static final Check C = new Check();

    private BoundaryYearsTest() {
    }

    public static void main(String[] args) {
        constants();
        calls();
        howManyYears();
        draws();
        whatCannotBe();
        yearsAnswers();
        images();
        backs();
        imageAnswers();
        counts();
        refused();
        refusedWithoutBook();
        refusedWhenFull();
        C.finish("BoundaryYearsTest");
    }

    private static void constants() {
        C.about("`NONE = -1`: None; refused; MISSING.");
        C.due("NONE", SafeBuckets.NONE, -1);
        C.due("none", new SafeBuckets().undo(), -1);
        C.due("missing", Check.desk("t;rn4").rows(0, -1, -1), 4);
        C.about("`HIDDEN = -1000000`: Not told.");
        C.due("HIDDEN", SafeBuckets.HIDDEN, -1000000);
        C.due("not told", new SafeBuckets().count(6), -1000000);
    }

    private static void calls() {
        C.about("An object is used for at most 512 calls after it has been made");
        SafeBuckets x = new SafeBuckets();
        C.due("1", x.feed('t' << 24, 0, 0, 0, 0), 1);
        C.due("2", x.text(0), 1);
        for (int call = 3; call <= 512; call++) {
            C.due("call " + call, x.add(0, call % 9 - 1, call % 8, 1), call - 2);
        }
        SafeBuckets y = Check.desk("tv16;tv16;tv16;sb8d0");
        int rows = 0;
        // Three calls to tell the book, 508 of years, one to look.
        for (int call = 4; call <= 511; call++) {
            rows = y.years(40, call);
        }
        C.due("512 calls, the most acts there can be", y.most(4), rows);
    }

    // ---- years

    /** The draws as the document tells them, by numbers without bounds. */
    private static final class Draws {
        private static final BigInteger TIMES = new BigInteger("6364136223846793005");
        private static final BigInteger MORE = new BigInteger("1442695040888963407");
        private static final BigInteger ROUND = BigInteger.ONE.shiftLeft(64);
        private BigInteger x;

        Draws(long seed) {
            x = BigInteger.valueOf(seed).mod(ROUND);
        }

        int next(int of) {
            x = x.multiply(TIMES).add(MORE).mod(ROUND);
            return x.shiftRight(33).mod(BigInteger.valueOf(of)).intValue();
        }
    }

    /** A year by hand; whether something was done. */
    private static boolean oneYear(SafeBuckets x, Draws d) {
        int sort = d.next(4);
        int table = d.next(x.count(0));
        if (sort == 3) {
            return x.build(table, d.next(2)) != NONE;
        }
        int values = x.table(table, 0);
        int a = d.next(values + 1);
        int b = d.next(values + 1);
        int n = d.next(5) + 1;
        a = a == values ? NONE : a;
        b = b == values ? NONE : b;
        return (sort == 2 ? x.drop(table, a, b, n) : x.add(table, a, b, n)) != NONE;
    }

    /** The first seed from here on that has these draws of 4 and of tables first. */
    private static long seedFor(int sort, int tables, int table, long from) {
        for (long seed = from; seed < from + 10000; seed++) {
            Draws d = new Draws(seed);
            if (d.next(4) == sort && d.next(tables) == table) {
                return seed;
            }
        }
        throw new IllegalStateException("no such seed");
    }

    private static void howManyYears() {
        C.about("YEARS by a seed: n (1 .. 40) times");
        for (int n : new int[] {1, 2, 39, 40}) {
            SafeBuckets x = Check.desk("sb2d3;tv2;tv3");
            SafeBuckets y = Check.desk("sb2d3;tv2;tv3");
            Draws d = new Draws(77);
            int done = 0;
            for (int i = 0; i < n; i++) {
                done += oneYear(y, d) ? 1 : 0;
            }
            C.due(n + " years", x.years(n, 77), y.most(4));
            C.due("as many acts", x.count(4), done);
            C.due("as long a log", x.count(3), done);
        }
        SafeBuckets z = Check.desk("tv2;tv3");
        for (int n : Check.outside(1, 40)) {
            C.due(n + " years", z.years(n, 77), NONE);
            C.due("no act", z.count(4), 0);
        }
    }

    /** Years by the program and by hand give the same, but for status. */
    private static void sameYears(String book, int n, long seed) {
        SafeBuckets x = Check.desk(book);
        SafeBuckets y = Check.desk(book);
        Draws d = new Draws(seed);
        for (int i = 0; i < n; i++) {
            oneYear(y, d);
        }
        C.due("rows by seed " + seed, x.years(n, seed), y.most(4));
        for (int what = 0; what < 5; what++) {
            C.due("status by seed " + seed, x.status(what), 0);
        }
        for (int table = 0; table < x.count(0); table++) {
            for (int a = -1; a < x.table(table, 0); a++) {
                for (int b = -1; b < x.table(table, 0); b++) {
                    C.due("rows by seed " + seed, x.rows(table, a, b), y.rows(table, a, b));
                }
            }
            for (int column = 0; column < 2; column++) {
                C.due("drift by seed " + seed, x.column(table, column, 1), y.column(table, column, 1));
                for (int i = 0; i < x.column(table, column, 0); i++) {
                    C.due("greatest by seed " + seed, x.bucket(table, column, i, 3), y.bucket(table, column, i, 3));
                }
            }
        }
        for (int i = 0; i < 40; i++) {
            for (int what = 0; what < 3; what++) {
                C.due("log by seed " + seed, x.log(i, what), y.log(i, what));
            }
        }
    }

    private static void draws() {
        C.about("(64 bits, going round)");
        long[] seeds = {0, 1, -1, Long.MAX_VALUE, Long.MIN_VALUE, 1L << 32, -(1L << 32), 0x123456789ABCDEFL};
        for (long seed : seeds) {
            sameYears("sb2d5;tv3;tv2;tv4", 40, seed);
        }
        C.about("(x shifted right by 33, without sign) modulo j");
        // Where x is below 0 after the first turn the sign would be seen.
        int below = 0;
        for (long seed = 1; below < 5; seed++) {
            if (seed * 6364136223846793005L + 1442695040888963407L < 0) {
                below++;
                sameYears("sb2d5;tv3;tv2;tv4", 1, seed);
                sameYears("tv3", 9, seed);
            }
        }
        C.about("a draw of 4: 0, 1: ADD; 2: DROP; 3: BUILD");
        String book = "sd99;tv2" + ";ra0b0n40;ra0b1n40;ra1b0n40;ra1b1n40;ra0n40;ra1n40;rb0n40;rb1n40;rn40";
        int[] sorts = {0, 0, 1, 3};
        for (int sort = 0; sort < 4; sort++) {
            SafeBuckets x = Check.desk(book);
            x.add(0, 0, 0, 1);
            x.years(1, seedFor(sort, 1, 0, 500));
            C.due("an act", x.count(3), 2);
            C.due("of sort", x.log(0, 0), sorts[sort]);
        }
        C.about("(COLUMN 0, COLUMN 1; VALUES itself: MISSING)");
        int missing = 0;
        for (long seed = 0; missing < 20; seed++) {
            Draws d = new Draws(seed);
            boolean add = d.next(4) < 2;
            d.next(1);
            int a = d.next(3);
            int b = d.next(3);
            int n = d.next(5) + 1;
            if (add && (a == 2) != (b == 2)) {
                missing++;
                SafeBuckets x = Check.desk("tv2");
                C.due("rows", x.years(1, seed), n);
                C.due("what they have", x.rows(0, a == 2 ? -1 : a, b == 2 ? -1 : b), n);
                C.due("missing in 0", x.table(0, 2), a == 2 ? n : 0);
                C.due("missing in 1", x.table(0, 3), b == 2 ? n : 0);
            }
        }
        C.about("a draw of 5 and 1: how many");
        boolean[] seen = new boolean[7];
        for (long i = 0; i < 200; i++) {
            SafeBuckets x = Check.desk("tv2");
            // Seeds far from each other: the draws of near ones are much alike.
            seen[Math.min(6, x.years(1, i * 0x9E3779B97F4A7C15L))] = true;
        }
        for (int n = 0; n <= 6; n++) {
            C.due(n + " at once", seen[n], n <= 5);
        }
    }

    private static void whatCannotBe() {
        C.about("Each is an ACT; what can't be is left (no STATUS).");
        SafeBuckets x = Check.desk("tv2");
        C.due("a drop of none", x.years(1, seedFor(2, 1, 0, 0)), 0);
        C.due("a build of what has not drifted", x.years(1, seedFor(3, 1, 0, 0)), 0);
        SafeBuckets full = Check.desk("tv2;tv2");
        for (int i = 0; i < 10; i++) {
            full.add(0, -1, -1, 99);
        }
        full.add(0, -1, -1, 9);
        C.due("an add beyond 999", full.years(1, seedFor(0, 2, 0, 0)), 999);
        C.due("an add beyond 999", full.years(1, seedFor(1, 2, 0, 0)), 999);
        C.due("no more acts", full.count(3), 11);
        C.due("an add to the other", full.years(1, seedFor(0, 2, 1, 0)) > 999, true);
        C.due("one more act", full.count(3), 12);
        C.due("no act", x.count(3), 0);
        for (int what = 0; what < 5; what++) {
            C.due("no status", x.status(what), 0);
            C.due("no status", full.status(what), 0);
        }
        SafeBuckets y = Check.desk("tv2");
        y.years(40, 9);
        int acts = y.count(4);
        for (int left = acts - 1; left >= 0; left--) {
            C.due("each can be undone", y.undo(), left);
        }
        C.due("none is left", y.most(4), 0);
    }

    private static void yearsAnswers() {
        C.about("YEARS: ROWS of all. NONE: no BOOK, out of bounds.");
        SafeBuckets none = new SafeBuckets();
        for (int n : new int[] {-1, 0, 1, 40, 41}) {
            C.due("no book", none.years(n, 1), NONE);
        }
        for (int what = 0; what < 5; what++) {
            C.due("no status", none.status(what), 0);
        }
        SafeBuckets x = Check.desk("tv2;tv2;rn40;rt1n30");
        for (int n : Check.outside(1, 40)) {
            C.due(n + " years", x.years(n, 1), NONE);
        }
        for (int what = 0; what < 5; what++) {
            C.due("no status", x.status(what), 0);
        }
        int all = x.years(5, 3);
        C.due("of all", all, x.table(0, 1) + x.table(1, 1));
        C.due("of nothing", Check.desk("t").years(1, seedFor(2, 1, 0, 0)), 0);
    }

    // ---- images

    private static void images() {
        C.about("An IMAGE keeps ROWS, BUCKETS, DRIFTS, BUDGET, the LOG");
        SafeBuckets x = Check.desk("sb2d9q8;tv3;tv2;ra0b0n4;ra1b0n4;rt1a1n3");
        SafeBuckets y = Check.desk("sb2d9q8;tv3;tv2;ra0b0n4;ra1b0n4;rt1a1n3");
        for (SafeBuckets each : new SafeBuckets[] {x, y}) {
            each.add(0, 2, 1, 3);
            each.move(0, 2, 1, -1, 1);
            each.budget(5);
        }
        x.image();
        x.budget(6);
        x.drop(0, 0, 0, 4);
        x.build(0, 0);
        x.add(1, 0, 0, 9);
        x.add(1, -1, -1, 1);
        C.due("rows of all", x.back(), 14);
        // But for what can be undone it is as if nothing had been behind the image.
        Reading.of(x).sameAs(Reading.of(y), "count 4", -3, C, "back");
        SafeBuckets log = Check.desk("t");
        for (int i = 1; i <= 70; i++) {
            log.budget(i);
        }
        log.image();
        for (int i = 101; i <= 170; i++) {
            log.budget(i);
        }
        log.back();
        C.due("the whole log", log.count(3), 60);
        C.due("its latest", log.log(0, 2), 70);
        C.due("its oldest", log.log(59, 2), 11);
        C.about("they are so again (no ACT can be UNDONE then)");
        SafeBuckets z = Check.desk("tv2", "a?");
        z.add(0, 0, 0, 5);
        z.image();
        C.due("an image takes nothing", z.count(4), 1);
        z.add(0, 0, 0, 6);
        z.add(9, 0, 0, 6);
        z.where(0, 0, 0);
        Check.tape(z, "t");
        C.due("back", z.back(), 5);
        C.due("no act", z.count(4), 0);
        C.due("no undo", z.undo(), NONE);
        C.due("rows stay", z.table(0, 1), 5);
        C.due("the log stays", z.count(3), 1);
        C.due("status stays", z.status(0), 1);
        C.due("trace stays", z.count(5), 2);
        C.due("wheres stay", z.count(1), 1);
        C.due("the tape stays", z.count(2), 1);
        z.add(0, 0, 0, 7);
        C.due("one act behind it", z.undo(), 0);
        C.due("no more", z.undo(), NONE);
        C.due("as in the image", z.table(0, 1), 5);
    }

    private static void backs() {
        C.about("BACK: ROWS of all. NONE: no IMAGE of this BOOK.");
        C.due("no book", new SafeBuckets().back(), NONE);
        SafeBuckets x = Check.desk("t");
        C.due("no image", x.back(), NONE);
        C.due("an image of no rows", x.image(), 0);
        C.due("back to none", x.back(), 0);
        x.add(0, 1, 1, 9);
        C.due("back to none", x.back(), 0);
        C.due("again", x.back(), 0);
        C.due("another book", Check.tell(x, "t;t;rn3", 0), 2);
        C.due("no image of this", x.back(), NONE);
        C.due("rows stay", x.most(4), 3);
        C.due("image", x.image(), 3);
        C.due("a text with a fault", Check.tell(x, "t;t;rn3;", 0), NONE);
        C.due("the image stays", x.back(), 3);
        C.due("a where", Check.tell(x, "a?", 1), 0);
        C.due("the image stays", x.back(), 3);
        C.due("the same book again", Check.tell(x, "t;t;rn3", 0), 2);
        C.due("is another", x.back(), NONE);
        // Acts ahead of the image can be undone behind it; back they are there again.
        SafeBuckets y = Check.desk("tv2");
        y.add(0, 0, 0, 2);
        y.image();
        C.due("undone", y.undo(), 0);
        C.due("no rows", y.most(4), 0);
        C.due("back", y.back(), 2);
        C.due("the log", y.count(3), 1);
    }

    private static void imageAnswers() {
        C.about("An IMAGE (instead of the one ahead): ROWS of all. NONE: no BOOK.");
        C.due("no book", new SafeBuckets().image(), NONE);
        SafeBuckets x = Check.desk("t;t;t;rn3;rt1n4;rt2n5");
        C.due("rows of all", x.image(), 12);
        x.add(2, 0, 0, 8);
        C.due("instead", x.image(), 20);
        x.drop(2, 0, 0, 8);
        C.due("back to the later one", x.back(), 20);
        SafeBuckets none = new SafeBuckets();
        none.image();
        C.due("told behind it", Check.tell(none, "t", 0), 1);
        C.due("no image", none.back(), NONE);
    }

    private static void counts() {
        C.about("HIDDEN for others.");
        SafeBuckets x = Check.desk("t", "a?");
        for (int what : Check.outside(0, 5)) {
            C.due("count " + what, x.count(what), HIDDEN);
            C.due("count " + what, new SafeBuckets().count(what), HIDDEN);
        }
        C.about("0 TABLES, 1 WHERES, 2 bytes of the TAPE, 3 how long the LOG is, 4 ACTS that can be UNDONE, 5 how long the TRACE is.");
        for (int what = 0; what < 6; what++) {
            C.due("none", new SafeBuckets().count(what), 0);
        }
        SafeBuckets y = Check.desk("tv2;tv2;tv2", "a?", "a?", "a?", "a?");
        for (int i = 0; i < 12; i++) {
            y.feed(-1, -1, -1, -1, -1);
        }
        for (int i = 1; i <= 70; i++) {
            y.budget(i);
        }
        y.chain(0);
        int[] most = {3, 4, 240, 60, 40, 6};
        for (int what = 0; what < 6; what++) {
            C.due("the most of " + what, y.count(what), most[what]);
        }
    }

    // ---- what is refused

    private interface Call {
        long on(SafeBuckets x);
    }

    /** A desk where something is in every place, with a tape that is nearly full. */
    private static SafeBuckets busy() {
        SafeBuckets x = Check.desk("sb2d3q9;tv3;tv2;ra0b1n4;ra2n2;rt1b1n5", "a=1|b?");
        x.add(0, 1, 1, 2);
        x.image();
        x.drop(0, 0, 1, 1);
        x.budget(4);
        x.where(0, 0, 0);
        Check.tape(x, "t;x" + " ".repeat(230));
        return x;
    }

    /** Refused, answered so, counted there (NONE: nowhere), and all else as without it, now and later. */
    private static void refused(String name, long answer, int status, Call call) {
        SafeBuckets x = busy();
        SafeBuckets y = busy();
        String place = "status " + status;
        C.due(name, call.on(x), answer);
        Reading.of(x).sameAs(Reading.of(y), place, 1, C, name);
        C.due("undo behind " + name, x.undo(), y.undo());
        Reading.of(x).sameAs(Reading.of(y), place, 1, C, name + " and undo");
        C.due("back behind " + name, x.back(), y.back());
        Reading.of(x).sameAs(Reading.of(y), place, 1, C, name + " and back");
    }

    private static long tableOf(SafeBuckets x, int table, int what) {
        try {
            return x.table(table, what);
        } catch (java.util.NoSuchElementException e) {
            return HIDDEN;
        }
    }

    private static void refused() {
        C.about("What is refused answers as told and changes nothing but STATUS.");
        refused("feed", NONE, NONE, x -> x.feed(-1, -1, -1, -1, -1));
        refused("end(-1)", 0, NONE, x -> x.end(-1) ? 1 : 0);
        refused("end(241)", 0, NONE, x -> x.end(241) ? 1 : 0);
        refused("fault(2)", -2, NONE, x -> x.fault(2));
        refused("text(0)", NONE, NONE, x -> x.text(0));
        refused("text(1)", NONE, NONE, x -> x.text(1));
        refused("text(2)", NONE, NONE, x -> x.text(2));
        refused("rule", NONE, NONE, x -> x.rule(3));
        refused("table", HIDDEN, NONE, x -> tableOf(x, 2, 0));
        refused("rows", NONE, NONE, x -> x.rows(0, 3, 0));
        refused("countOf", NONE, NONE, x -> x.countOf(0, 0, -1));
        refused("bucket", HIDDEN, NONE, x -> x.bucket(0, 0, 2, 0));
        refused("column", NONE, NONE, x -> x.column(0, 0, 4));
        refused("error", NONE, NONE, x -> x.error(0, 0, 4));
        refused("border", NONE, NONE, x -> x.border(0, 0, 1, 1));
        refused("tried", NONE, NONE, x -> x.tried(0, 0, 1, 2));
        refused("fewest", NONE, NONE, x -> x.fewest(0, 0, -1));
        refused("add, table", NONE, 0, x -> x.add(2, 0, 0, 1));
        refused("add, value", NONE, 0, x -> x.add(0, 0, 3, 1));
        refused("add, n", NONE, 1, x -> x.add(0, 0, 0, 0));
        refused("drop, table", NONE, 0, x -> x.drop(-1, 0, 0, 1));
        refused("drop, value", NONE, 0, x -> x.drop(1, 2, 0, 1));
        refused("drop, n", NONE, 1, x -> x.drop(0, 0, 1, 100));
        refused("drop, not so many", NONE, 3, x -> x.drop(0, 0, 1, 4));
        refused("move, table", NONE, 0, x -> x.move(2, 0, 1, 1, 1));
        refused("move, value", NONE, 0, x -> x.move(0, 0, 1, 3, 1));
        refused("move, the same", NONE, 2, x -> x.move(0, 0, 1, 0, 1));
        refused("move, none", NONE, 3, x -> x.move(0, 2, 2, 1, 1));
        refused("build, column", NONE, 0, x -> x.build(0, 2));
        refused("build, not drifted", NONE, 2, x -> x.build(1, 0));
        refused("budget, bounds", NONE, 1, x -> x.budget(1000));
        refused("budget, so", NONE, 2, x -> x.budget(4));
        refused("years(0)", NONE, NONE, x -> x.years(0, 1));
        refused("years(41)", NONE, NONE, x -> x.years(41, 1));
        refused("status", NONE, NONE, x -> x.status(5));
        refused("log", HIDDEN, NONE, x -> x.log(3, 0));
        refused("where", NONE, NONE, x -> x.where(0, 1, 0));
        refused("join", NONE, NONE, x -> x.join(0, 0, 2, 0, 0));
        refused("chain", NONE, NONE, x -> x.chain(0));
        refused("trace", NONE, NONE, x -> x.trace(2));
        refused("narrow", HIDDEN, NONE, x -> x.narrow(0, 1, 0));
        refused("odds", NONE, NONE, x -> x.odds(0, 0, 5, 0));
        refused("unit", HIDDEN, NONE, x -> x.unit(0, 2, 0));
        refused("shares", NONE, NONE, x -> x.shares(0, 1000));
        refused("most", HIDDEN, NONE, x -> x.most(6));
        refused("count", HIDDEN, NONE, x -> x.count(6));
    }

    /** Without a book: the five acts alone are counted, and a book told later knows nothing of it. */
    private static void refusedWithoutBook() {
        SafeBuckets x = new SafeBuckets();
        C.due("add", x.add(0, 0, 0, 1), NONE);
        C.due("drop", x.drop(0, 0, 0, 1), NONE);
        C.due("move", x.move(0, 0, 0, 1, 1), NONE);
        C.due("build", x.build(0, 0), NONE);
        C.due("budget", x.budget(5), NONE);
        C.due("years", x.years(1, 1), NONE);
        C.due("undo", x.undo(), NONE);
        C.due("image", x.image(), NONE);
        C.due("back", x.back(), NONE);
        C.due("where", x.where(0, 0, 0), NONE);
        C.due("join", x.join(0, 0, 0, 0, 0), NONE);
        C.due("chain", x.chain(0), NONE);
        Reading.of(x).sameAs(Reading.of(new SafeBuckets()), "status 0", 5, C, "all without a book");
        Check.tell(x, "tv2;ra0b0n3", 0);
        Reading.of(x).sameAs(Reading.of(Check.desk("tv2;ra0b0n3")), "status 0", 5, C, "a book then");
    }

    private static void refusedWhenFull() {
        SafeBuckets x = Check.desk("tv2", "a?", "b?", "a=1", "b=1");
        SafeBuckets y = Check.desk("tv2", "a?", "b?", "a=1", "b=1");
        for (SafeBuckets each : new SafeBuckets[] {x, y}) {
            for (int i = 0; i < 10; i++) {
                each.add(0, 0, 0, 99);
            }
            each.add(0, 0, 0, 9);
            Check.tape(each, "a=1");
        }
        C.due("a row more", x.add(0, 0, 0, 1), NONE);
        C.due("a where more", x.text(1), NONE);
        Reading.of(x).sameAs(Reading.of(y), "status 3", 1, C, "what is too much");
    }
}
