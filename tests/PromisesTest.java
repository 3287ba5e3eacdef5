/** Each promise by itself: ordinary calls, the edges that the document names, wrong ones. */
public final class PromisesTest {
    private static final int NONE = SafeBuckets.NONE;
    private static final int HIDDEN = SafeBuckets.HIDDEN;
    private static final int LOWEST = Integer.MIN_VALUE;
    private static final int HIGHEST = Integer.MAX_VALUE;
    private static final Check C = new Check();

    /** Counts of column 0: 4, 4, 1, 0; of column 1: 9, 0, 0, 0; 2 and 2 MISSING. */
    private static final String SMALL = "sb2d3;tv4;ra0b0n4;ra1b0n4;ra2n1;rn1;rb0n1";

    private PromisesTest() {
    }

    public static void main(String[] args) {
        newObject();
        feed();
        end();
        faultOfBooks();
        faultOfWheres();
        textOfBooks();
        textOfWheres();
        rule();
        table();
        rowsAndCounts();
        bucketsAsBuilt();
        bucketsAsKept();
        columns();
        errorsAndBorders();
        tried();
        fewest();
        add();
        drop();
        move();
        build();
        budget();
        years();
        status();
        undo();
        log();
        whereTruth();
        whereBounds();
        joins();
        chains();
        trace();
        narrow();
        odds();
        unit();
        shares();
        most();
        images();
        count();
        C.finish("PromisesTest");
    }

    private static void newObject() {
        SafeBuckets x = new SafeBuckets();
        for (int what = 0; what <= 5; what++) {
            C.due("new count", x.count(what), 0);
        }
        for (int what = 0; what <= 4; what++) {
            C.due("new status", x.status(what), 0);
        }
        C.due("new rule", x.rule(0), NONE);
        C.noSuchTable(x, 0, 0);
        C.due("new countOf", x.countOf(0, 0, 0), NONE);
        C.due("new bucket", x.bucket(0, 0, 0, 0), HIDDEN);
        C.due("new column", x.column(0, 0, 0), NONE);
        C.due("new error", x.error(0, 0, 1), NONE);
        C.due("new border", x.border(0, 0, 1, 0), NONE);
        C.due("new tried", x.tried(0, 0, 1, 0), NONE);
        C.due("new fewest", x.fewest(0, 0, 0), NONE);
        C.due("new log", x.log(0, 0), HIDDEN);
        C.due("new narrow", x.narrow(0, 0, 0), HIDDEN);
        C.due("new odds", x.odds(0, 0, 1, 0), NONE);
        C.due("new unit", x.unit(0, 0, 0), HIDDEN);
        C.due("new shares", x.shares(0, 1), NONE);
        C.due("new trace", x.trace(0), NONE);
        C.due("NONE", SafeBuckets.NONE, -1);
        C.due("HIDDEN", SafeBuckets.HIDDEN, -1000000);
    }

    private static void feed() {
        SafeBuckets x = new SafeBuckets();
        int t = 't' << 24;
        C.due("feed of zeros", x.feed(0, 0, 0, 0, 0), 0);
        C.due("highest byte first", x.feed('t' << 16 | 'v', 0, '9' << 24, 0, 0), 3);
        C.due("t v 9 in order", x.fault(0), NONE);
        C.due("text", x.text(0), 1);
        C.due("values", x.table(0, 0), 9);
        C.due("a byte of 255 counts", x.feed(-1, 0, 0, 0, 0), 4);
        C.due("and is a fault", x.fault(0), 0);
        x.end(0);
        int full = 0x20202020;
        for (int i = 1; i <= 11; i++) {
            C.due("20 more", x.feed(full, full, full, full, full), 20 * i);
        }
        C.due("19 more", x.feed(full, full, full, full, 0x202020), 239);
        C.due("two too many", x.feed(t | ';', 0, 0, 0, 0), NONE);
        C.due("refused changes nothing", x.count(2), 239);
        C.due("240 are not more than 240", x.feed(0, 0, 't', 0, 0), 240);
        C.due("241 are", x.feed(0, 0, 0, 0, 1), NONE);
        C.due("nothing more is fine", x.feed(0, 0, 0, 0, 0), 240);
        C.due("blanks ahead", x.fault(0), NONE);
        feedNearTheEnd();
    }

    /** Each byte of each number counts: with two left, three are refused wherever they stand, two are not. */
    private static void feedNearTheEnd() {
        int full = 0x20202020;
        int[] pairs = {0x01010000, 0x00010100, 0x00000101, 0x01000001, 0x01000100};
        for (int place = 0; place < 5; place++) {
            for (int pair : pairs) {
                SafeBuckets x = new SafeBuckets();
                for (int i = 0; i < 11; i++) {
                    x.feed(full, full, full, full, full);
                }
                x.feed(full, full, full, full, 0x2020);
                int[] w = new int[5];
                w[place] = pair;
                w[(place + 1) % 5] = 1;
                C.due("three more", x.feed(w[0], w[1], w[2], w[3], w[4]), NONE);
                w[(place + 1) % 5] = 0;
                C.due("two more", x.feed(w[0], w[1], w[2], w[3], w[4]), 240);
            }
        }
    }

    private static void end() {
        SafeBuckets x = new SafeBuckets();
        Check.tape(x, "tv4;s");
        C.due("end(6)", x.end(6), false);
        C.due("end(-1)", x.end(-1), false);
        C.due("end lowest", x.end(LOWEST), false);
        C.due("end highest", x.end(HIGHEST), false);
        C.due("all still there", x.count(2), 5);
        C.due("end(5)", x.end(5), true);
        C.due("end(3)", x.end(3), true);
        C.due("3 left", x.count(2), 3);
        C.due("tv4", x.text(0), 1);
        C.due("end(1) of none", x.end(1), false);
        C.due("end(0) of none", x.end(0), true);
    }

    private static void bookFault(String text, int want) {
        SafeBuckets x = new SafeBuckets();
        C.due("fault of book \"" + text + "\"", Check.fault(x, text, 0), want);
        C.due("the tape stays for \"" + text + "\"", x.count(2), text.length());
    }

    private static void faultOfBooks() {
        bookFault("", 0);
        bookFault("   ", 3);
        bookFault("t", NONE);
        bookFault("  t  ", NONE);
        bookFault("t;", 2);
        bookFault("t;;t", 2);
        bookFault(";t", 0);
        bookFault("x", 0);
        bookFault("T", 0);
        bookFault("s", 1);
        bookFault("s;t", NONE);
        bookFault("t;s", NONE);
        bookFault("sb3d20q999;t", NONE);
        bookFault("sq1d0b8;t", NONE);
        bookFault("s b 3 d 2 0;t", 10);
        bookFault("sb3b3;t", 3);
        bookFault("sv3;t", 1);
        bookFault("sb;t", 2);
        bookFault("sb", 2);
        bookFault("sb ", 3);
        bookFault("sb0;t", 2);
        bookFault("sb00;t", 3);
        bookFault("sb000;t", 4);
        bookFault("sb0000;t", 5);
        bookFault("sb008;t", NONE);
        bookFault("sb0008;t", 5);
        bookFault("sb9;t", 2);
        bookFault("sb89;t", 3);
        bookFault("sb999;t", 4);
        bookFault("sb9999;t", 5);
        bookFault("sd99;t", NONE);
        bookFault("sd100;t", 4);
        bookFault("sd1000;t", 5);
        bookFault("sd100 0;t", 4);
        bookFault("sq999;t", NONE);
        bookFault("sq0;t", 2);
        bookFault("t;s;s", 4);
        bookFault("t;t;t", NONE);
        bookFault("t;t;t;t", 6);
        bookFault("tv2", NONE);
        bookFault("tv1", 2);
        bookFault("tv16", NONE);
        bookFault("tv17", 3);
        bookFault("tv4v4", 3);
        bookFault("ta4", 1);
        bookFault("r", 1);
        bookFault("r;t", NONE);
        bookFault("t;rt0a7b7n40", NONE);
        bookFault("t;rn40b7a7t0", NONE);
        bookFault("t;rn41", 5);
        bookFault("t;rn0", 4);
        bookFault("tv16;ra15b15", NONE);
        bookFault("tv16;ra16", 8);
        bookFault("t;rt3", 4);
        bookFault("t;rt2", 5);
        bookFault("t;t;rt2", 7);
        bookFault("t;t;t;rt2", NONE);
        bookFault("rt2;t;t;t", NONE);
        bookFault("t;ra8", 5);
        bookFault("t;ra8 ", 6);
        bookFault("t;ra8;x", 6);
        bookFault("t;rb8", 5);
        bookFault("tv9;t;rt1a8", 11);
        bookFault("tv9;t;ra8", NONE);
        bookFault("ra8;tv9", NONE);
        bookFault("t;rt0t0", 5);
        bookFault("t;rv1", 3);
        bookFault("t r", 2);
        bookFault("t1", 1);
        bookFault("t\u00e9", 1);
        String twenty = "t" + ";r".repeat(20);
        bookFault(twenty, NONE);
        bookFault(twenty + ";r", 42);
        bookFault(twenty + ";t", NONE);
        SafeBuckets x = new SafeBuckets();
        C.due("fault(2)", x.fault(2), -2);
        C.due("fault(-1)", x.fault(-1), -2);
        C.due("fault lowest", x.fault(LOWEST), -2);
    }

    private static void whereFault(String text, int want) {
        SafeBuckets x = new SafeBuckets();
        C.due("fault of where \"" + text + "\"", Check.fault(x, text, 1), want);
        C.due("text of where \"" + text + "\"", x.text(1), want == NONE ? 0 : NONE);
    }

    private static void faultOfWheres() {
        whereFault("", 0);
        whereFault(" ", 1);
        whereFault("a", 1);
        whereFault("a ", 2);
        whereFault("a?", NONE);
        whereFault(" b ? ", NONE);
        whereFault("b=", 2);
        whereFault("b= 0", NONE);
        whereFault("a<99&b>00|a=7", NONE);
        whereFault("a=007", 4);
        whereFault("a=1 2", 4);
        whereFault("a?1", 2);
        whereFault("a==1", 2);
        whereFault("c?", 0);
        whereFault("a!1", 1);
        whereFault("a?&", 3);
        whereFault("a?|", 3);
        whereFault("a?&&b?", 3);
        whereFault("a?b?", 2);
        whereFault("|a?", 0);
        whereFault("a?;", 2);
        whereFault("a?&b?|a?&b?|a?&b?", NONE);
        whereFault("a?&b?|a?&b?|a?&b? ", NONE);
        whereFault("a?&b?|a?&b?|a?&b?|", 18);
        whereFault("a?&b?|a?&b?|a?&b?| a?", 19);
        whereFault("a?&b?|a?&b?|a?&b?x", 17);
        whereFault("a\u00bd", 1);
    }

    private static void textOfBooks() {
        SafeBuckets x = Check.desk("t;t;sq5", "a?");
        C.due("tables", x.count(0), 2);
        C.due("tape is empty", x.count(2), 0);
        x.add(0, 1, 1, 3);
        x.add(0, 99, 1, 3);
        x.where(0, 0, 0);
        x.image();
        Check.tape(x, "t;t;t;t");
        C.due("text with a fault", x.text(0), NONE);
        C.due("the tape stays", x.count(2), 7);
        C.due("the book stays", x.count(0), 2);
        C.due("no such sort", x.text(2), NONE);
        C.due("no such sort below", x.text(-1), NONE);
        C.due("the tape stays", x.count(2), 7);
        C.due("acts stay", x.count(4), 1);
        C.due("a new book", Check.tell(x, "tv3", 0), 1);
        C.due("log is gone", x.count(3), 0);
        C.due("nothing to undo", x.undo(), NONE);
        C.due("image is gone", x.back(), NONE);
        C.due("rows are gone", x.table(0, 1), 0);
        C.due("rows of a pair are gone", x.rows(0, 1, 1), 0);
        C.due("budget is anew", x.rule(2), 999);
        C.due("wheres stay", x.count(1), 1);
        C.due("status stays", x.status(0), 1);
        C.due("trace stays", x.count(5), 2);
        C.due("the other table is gone", x.shares(1, 1), NONE);
        C.due("drift is anew", x.column(0, 0, 1), 0);
        C.due("rows told twice add up", Check.tell(x, "ra1b1n5;t;ra1b1n7;rb1", 0), 1);
        C.due("12", x.rows(0, 1, 1), 12);
        C.due("missing and 1", x.rows(0, -1, 1), 1);
    }

    private static void textOfWheres() {
        SafeBuckets x = new SafeBuckets();
        for (int i = 0; i < 4; i++) {
            C.due("where " + i, Check.tell(x, "a=" + i, 1), i);
        }
        C.due("tape is empty", x.count(2), 0);
        C.due("a fifth", Check.tell(x, "a=4", 1), NONE);
        C.due("the tape stays", x.count(2), 3);
        C.due("no fault", x.fault(1), NONE);
        C.due("four", x.count(1), 4);
        C.due("the fourth is as it was", x.unit(3, 0, 3), 3);
    }

    private static void rule() {
        SafeBuckets x = Check.desk("t");
        C.due("buckets", x.rule(0), 3);
        C.due("drift", x.rule(1), 20);
        C.due("budget", x.rule(2), 999);
        C.due("rule(3)", x.rule(3), NONE);
        C.due("rule(-1)", x.rule(-1), NONE);
        SafeBuckets y = Check.desk("tv2;sb8d0q1");
        C.due("buckets as told", y.rule(0), 8);
        C.due("drift as told", y.rule(1), 0);
        C.due("budget as told", y.rule(2), 1);
        y.budget(77);
        C.due("budget as now", y.rule(2), 77);
    }

    private static void table() {
        SafeBuckets x = Check.desk("t;tv4;rt1a1n3;rt1b2n5;rt1n7;rt1a0b0n2");
        C.due("values without", x.table(0, 0), 8);
        C.due("no rows", x.table(0, 1), 0);
        C.due("values", x.table(1, 0), 4);
        C.due("rows", x.table(1, 1), 17);
        C.due("missing 0", x.table(1, 2), 12);
        C.due("missing 1", x.table(1, 3), 10);
        C.noSuchTable(x, 2, 0);
        C.noSuchTable(x, -1, 0);
        C.noSuchTable(x, 0, 4);
        C.noSuchTable(x, 0, -1);
        C.noSuchTable(x, HIGHEST, LOWEST);
    }

    private static void rowsAndCounts() {
        SafeBuckets x = Check.desk("tv4;ra1b3n3;rb2n5;rn7;ra0n2;ra1b0");
        C.due("1, 3", x.rows(0, 1, 3), 3);
        C.due("3, 1", x.rows(0, 3, 1), 0);
        C.due("missing, 2", x.rows(0, -1, 2), 5);
        C.due("missing both", x.rows(0, -1, -1), 7);
        C.due("0, missing", x.rows(0, 0, -1), 2);
        C.due("4 is no value", x.rows(0, 4, 0), NONE);
        C.due("4 is no value", x.rows(0, 0, 4), NONE);
        C.due("-2 is none", x.rows(0, -2, 0), NONE);
        C.due("-2 is none", x.rows(0, 0, -2), NONE);
        C.due("no such table", x.rows(1, 0, 0), NONE);
        C.due("no such table", x.rows(-1, 0, 0), NONE);
        C.due("count of 1", x.countOf(0, 0, 1), 4);
        C.due("count of 0 in 1", x.countOf(0, 1, 0), 1);
        C.due("count of 3 in 1", x.countOf(0, 1, 3), 3);
        C.due("count of none", x.countOf(0, 0, 3), 0);
        C.due("missing is no value", x.countOf(0, 0, -1), NONE);
        C.due("count of 4", x.countOf(0, 0, 4), NONE);
        C.due("no such column", x.countOf(0, 2, 0), NONE);
        C.due("no such column", x.countOf(0, -1, 0), NONE);
        C.due("no such table", x.countOf(1, 0, 0), NONE);
    }

    private static void bucketRow(SafeBuckets x, int column, int i, int... want) {
        for (int what = 0; what < 4; what++) {
            C.due("bucket " + column + ", " + i + ", " + what, x.bucket(0, column, i, what), want[what]);
        }
    }

    private static void bucketsAsBuilt() {
        SafeBuckets x = Check.desk(SMALL);
        // 4 4 | 1 0 costs 0.5; 4 | 4 1 0 costs more.
        bucketRow(x, 0, 0, 0, 1, 8, 4);
        bucketRow(x, 0, 1, 2, 3, 1, 1);
        bucketRow(x, 1, 0, 0, 0, 9, 9);
        bucketRow(x, 1, 1, 1, 3, 0, 0);
        C.due("no third", x.bucket(0, 0, 2, 0), HIDDEN);
        C.due("no -1st", x.bucket(0, 0, -1, 0), HIDDEN);
        C.due("no such what", x.bucket(0, 0, 0, 4), HIDDEN);
        C.due("no such what", x.bucket(0, 0, 0, -1), HIDDEN);
        C.due("no such column", x.bucket(0, 2, 0, 0), HIDDEN);
        C.due("no such table", x.bucket(1, 0, 0, 0), HIDDEN);
        // All alike: every way costs 0, so every bucket begins as low as it can.
        SafeBuckets even = Check.desk("sb3;tv5");
        bucketRow(even, 0, 0, 0, 0, 0, 0);
        bucketRow(even, 0, 1, 1, 1, 0, 0);
        bucketRow(even, 0, 2, 2, 4, 0, 0);
        SafeBuckets few = Check.desk("sb8;tv2;ra1n3");
        C.due("as many as values at most", few.column(0, 0, 0), 2);
        bucketRow(few, 0, 1, 1, 1, 3, 3);
        SafeBuckets one = Check.desk("sb1;tv16;ra15n40;ra0n2");
        bucketRow(one, 0, 0, 0, 15, 42, 40);
    }

    private static void bucketsAsKept() {
        SafeBuckets x = Check.desk("sb1d99;tv4;ra0n2;ra1n3");
        x.add(0, 3, 2, 4);
        bucketRow(x, 0, 0, 0, 3, 9, 7);
        bucketRow(x, 1, 0, 0, 3, 4, 4);
        x.drop(0, 1, -1, 3);
        bucketRow(x, 0, 0, 0, 3, 6, 6);
        x.drop(0, 3, 2, 1);
        bucketRow(x, 0, 0, 0, 3, 5, 5);
        bucketRow(x, 1, 0, 0, 3, 3, 3);
        C.due("drift of 0", x.column(0, 0, 1), 8);
        C.due("drift of 1", x.column(0, 1, 1), 5);
        x.build(0, 0);
        bucketRow(x, 0, 0, 0, 3, 5, 3);
        // A bucket that was lower stays; a value goes to its own bucket.
        SafeBuckets y = Check.desk("sb2d99;tv4;ra0n9;ra1n9");
        y.add(0, 1, -1, 2);
        bucketRow(y, 0, 0, 0, 1, 20, 11);
        bucketRow(y, 0, 1, 2, 3, 0, 0);
        y.add(0, 2, -1, 2);
        bucketRow(y, 0, 1, 2, 3, 2, 2);
    }

    private static void columns() {
        SafeBuckets x = Check.desk("sb2d5;tv4;ra0n4;ra1n2;ra2n9;ra3n9");
        C.due("buckets", x.column(0, 0, 0), 2);
        C.due("drift", x.column(0, 0, 1), 0);
        C.due("worst", x.column(0, 0, 2), 0);
        C.due("spare", x.column(0, 0, 3), 5);
        x.add(0, 3, -1, 5);
        C.due("drift as told is not above it", x.column(0, 0, 1), 5);
        C.due("spare", x.column(0, 0, 3), 0);
        C.due("worst by counts as they are", x.column(0, 0, 2), 1);
        C.due("the other has not drifted", x.column(0, 1, 1), 0);
        C.due("worst of like ones", x.column(0, 1, 2), 0);
        x.add(0, 3, -1, 1);
        C.due("above: built", x.column(0, 0, 1), 0);
        C.due("what 4", x.column(0, 0, 4), NONE);
        C.due("what -1", x.column(0, 0, -1), NONE);
        C.due("no column", x.column(0, 2, 0), NONE);
        C.due("no column", x.column(0, -1, 0), NONE);
        C.due("no table", x.column(1, 0, 0), NONE);
    }

    private static void errorsAndBorders() {
        SafeBuckets x = Check.desk(SMALL);
        // 16 + 16 + 1 less 81 by 4: 12.75.
        C.due("by 1", x.error(0, 0, 1), 12 * 720720 + 540540);
        C.due("by 2", x.error(0, 0, 2), 360360);
        C.due("by 3", x.error(0, 0, 3), 0);
        C.due("by 4", x.error(0, 0, 4), 0);
        C.due("by 5", x.error(0, 0, 5), NONE);
        C.due("by 0", x.error(0, 0, 0), NONE);
        C.due("by lowest", x.error(0, 0, LOWEST), NONE);
        C.due("no column", x.error(0, 2, 1), NONE);
        C.due("no table", x.error(1, 0, 1), NONE);
        C.due("1 of 1", x.border(0, 0, 1, 0), 0);
        C.due("2 of 2", x.border(0, 0, 2, 1), 2);
        C.due("2 of 3", x.border(0, 0, 3, 1), 2);
        C.due("3 of 3", x.border(0, 0, 3, 2), 3);
        C.due("4 of 4", x.border(0, 0, 4, 3), 3);
        C.due("of like ways the second begins lowest", x.border(0, 1, 3, 1), 1);
        C.due("then the third", x.border(0, 1, 3, 2), 2);
        C.due("no such i", x.border(0, 0, 2, 2), NONE);
        C.due("no such i", x.border(0, 0, 2, -1), NONE);
        C.due("no such k", x.border(0, 0, 5, 4), NONE);
        C.due("no such k", x.border(0, 0, 0, 0), NONE);
        C.due("no such column", x.border(0, 2, 1, 0), NONE);
        x.add(0, 3, -1, 1);
        C.due("as it is now", x.error(0, 0, 2), 0);
        // The greatest there can be: 999 of one of 16 values.
        SafeBuckets y = Check.desk("tv16");
        for (int i = 0; i < 9; i++) {
            y.add(0, 7, 7, 99);
        }
        C.due("full", y.add(0, 7, 7, 99), 990);
        C.due("full", y.add(0, 7, 7, 9), 999);
        C.due("by 1", y.error(0, 0, 1), 999L * 999 * 720720 / 16 * 15);
        C.due("by 2", y.error(0, 0, 2), 999L * 999 * 720720 - 999L * 999 * 720720 / 8);
        C.due("by 3", y.error(0, 0, 3), 0);
    }

    private static void tried() {
        SafeBuckets x = Check.desk("tv4;ra0n5;ra1n5;ra2n5;ra3n5");
        // All ways cost 0, so that each first try stops: 4 by one bucket, then one for each v.
        C.due("by 1", x.tried(0, 0, 1, 0), 4);
        C.due("by 2", x.tried(0, 0, 2, 0), 7);
        C.due("by 3", x.tried(0, 0, 3, 0), 9);
        C.due("by 4", x.tried(0, 0, 4, 0), 10);
        C.due("plain by 1", x.tried(0, 0, 1, 1), 4);
        C.due("plain by 2", x.tried(0, 0, 2, 1), 10);
        C.due("plain by 3", x.tried(0, 0, 3, 1), 13);
        C.due("plain by 4", x.tried(0, 0, 4, 1), 14);
        C.due("what 2", x.tried(0, 0, 1, 2), NONE);
        C.due("what -1", x.tried(0, 0, 1, -1), NONE);
        C.due("by 5", x.tried(0, 0, 5, 0), NONE);
        C.due("by 0", x.tried(0, 0, 0, 0), NONE);
        C.due("no column", x.tried(0, 2, 1, 0), NONE);
        C.due("no table", x.tried(3, 0, 1, 0), NONE);
    }

    private static void fewest() {
        SafeBuckets x = Check.desk(SMALL);
        C.due("none", x.fewest(0, 0, 0), 3);
        C.due("just too little", x.fewest(0, 0, 360359), 3);
        C.due("just enough", x.fewest(0, 0, 360360), 2);
        C.due("all", x.fewest(0, 0, Long.MAX_VALUE), 1);
        C.due("of all alike", Check.desk("t").fewest(0, 0, 0), 1);
        C.due("as many as values", Check.desk("tv3;ra0;ra1n2;ra2n3").fewest(0, 0, 0), 3);
        C.due("below 0", x.fewest(0, 0, -1), NONE);
        C.due("far below 0", x.fewest(0, 0, Long.MIN_VALUE), NONE);
        C.due("no column", x.fewest(0, 2, 0), NONE);
        C.due("no table", x.fewest(1, 0, 0), NONE);
    }

    private static void add() {
        SafeBuckets x = Check.desk("sd3b2;tv4;tv3");
        C.due("add", x.add(1, 2, -1, 2), 2);
        C.due("add", x.add(1, -1, -1, 99), 101);
        C.due("rows", x.rows(1, 2, -1), 2);
        C.due("both missing drift nothing", x.column(1, 1, 1), 0);
        C.due("drift", x.column(1, 0, 1), 2);
        C.due("value out", x.add(1, 3, 0, 1), NONE);
        C.due("value out", x.add(1, 0, -2, 1), NONE);
        C.due("table out", x.add(2, 0, 0, 1), NONE);
        C.due("the first counts", x.add(2, 0, 0, 100), NONE);
        C.due("0 rows", x.add(1, 0, 0, 0), NONE);
        C.due("100 rows", x.add(1, 0, 0, 100), NONE);
        C.due("lowest", x.add(1, 0, 0, LOWEST), NONE);
        for (int i = 0; i < 9; i++) {
            x.add(1, 0, 0, 99);
        }
        C.due("8 more would be 1000", x.add(1, 0, 0, 8), NONE);
        C.due("7 more", x.add(1, 0, 0, 7), 999);
        C.due("one too many", x.add(1, -1, -1, 1), NONE);
        C.due("n ahead of too much", x.add(1, 0, 0, 100), NONE);
        C.due("no such", x.status(0), 4);
        C.due("bounds", x.status(1), 4);
        C.due("is so", x.status(2), 0);
        C.due("too much", x.status(3), 2);
        C.due("rows stand", x.table(1, 1), 999);
        C.due("refused is no act", x.count(3), 12);
        C.due("the other table can", x.add(0, 3, 3, 99), 99);
    }

    private static void drop() {
        SafeBuckets x = Check.desk("sd3b2;tv4;ra1b1n20;rn5;ra0b3n2");
        C.due("drop", x.drop(0, 1, 1, 2), 25);
        C.due("missing", x.drop(0, -1, -1, 5), 20);
        C.due("none left", x.drop(0, -1, -1, 1), NONE);
        C.due("too many", x.drop(0, 1, 1, 19), NONE);
        C.due("none ever", x.drop(0, 2, 2, 1), NONE);
        C.due("0 rows", x.drop(0, 1, 1, 0), NONE);
        C.due("100 rows", x.drop(0, 1, 1, 100), NONE);
        C.due("no value", x.drop(0, 4, 1, 1), NONE);
        C.due("no table", x.drop(1, 1, 1, 1), NONE);
        C.due("no such", x.status(0), 2);
        C.due("bounds", x.status(1), 2);
        C.due("too much", x.status(3), 3);
        C.due("drift", x.column(0, 0, 1), 2);
        C.due("to the last", x.drop(0, 1, 1, 18), 2);
        C.due("built", x.column(0, 0, 1), 0);
        C.due("its rows", x.rows(0, 1, 1), 0);
    }

    private static void move() {
        SafeBuckets x = Check.desk("sd9b1;tv4;ra1b1n2;ra2b2n7");
        C.due("move", x.move(0, 1, 1, 2, 2), 8);
        C.due("left", x.rows(0, 1, 1), 1);
        C.due("drift is two", x.column(0, 0, 1), 2);
        C.due("rows stay", x.table(0, 1), 9);
        C.due("within a column", x.move(0, 1, 1, 1, 3), 1);
        C.due("drifts it too", x.column(0, 0, 1), 4);
        C.due("to missing", x.move(0, 1, 3, -1, -1), 1);
        C.due("drift once", x.column(0, 0, 1), 5);
        C.due("there is none", x.move(0, 1, 3, 0, 0), NONE);
        C.due("the same", x.move(0, 2, 2, 2, 2), NONE);
        C.due("the same, and none", x.move(0, 0, 0, 0, 0), NONE);
        C.due("no value", x.move(0, 4, 4, 4, 4), NONE);
        C.due("no value", x.move(0, 2, 2, 2, 4), NONE);
        C.due("no table", x.move(-1, 2, 2, 2, 1), NONE);
        C.due("no such", x.status(0), 3);
        C.due("is so", x.status(2), 2);
        C.due("too much", x.status(3), 1);
        // Dropped first, then added: greatest is cut at the total between.
        SafeBuckets y = Check.desk("sd9b1;tv2;ra0n5");
        y.move(0, 0, -1, 1, -1);
        C.due("total", y.bucket(0, 0, 0, 2), 5);
        C.due("greatest", y.bucket(0, 0, 0, 3), 5);
        y.move(0, -1, -1, 0, 0);
        C.due("none", y.status(3), 1);
        // Built between the two: one is the drift then.
        SafeBuckets z = Check.desk("sd1b1;tv2;ra0n5;rb0");
        z.drop(0, 0, -1, 1);
        z.move(0, 0, -1, 1, -1);
        C.due("drift after a build between", z.column(0, 0, 1), 1);
        SafeBuckets full = Check.desk("tv2");
        for (int i = 0; i < 10; i++) {
            full.add(0, 0, 0, 99);
        }
        full.add(0, 0, 0, 9);
        C.due("a move among 999", full.move(0, 0, 0, 1, 1), 1);
    }

    private static void build() {
        SafeBuckets x = Check.desk("sd9b2;tv4;ra1b1n2;ra2b2n7");
        C.due("not drifted", x.build(0, 0), NONE);
        x.add(0, 3, -1, 5);
        C.due("kept", x.bucket(0, 0, 1, 3), 12);
        C.due("built", x.build(0, 0), 2);
        C.due("new", x.bucket(0, 0, 1, 3), 7);
        C.due("no drift", x.column(0, 0, 1), 0);
        C.due("again", x.build(0, 0), NONE);
        C.due("the other", x.build(0, 1), NONE);
        C.due("no column", x.build(0, 2), NONE);
        C.due("no column", x.build(0, -1), NONE);
        C.due("no table", x.build(1, 0), NONE);
        C.due("no such", x.status(0), 3);
        C.due("is so", x.status(2), 3);
        C.due("drift 0 told: always built", Check.desk("sd0;t").build(0, 0), NONE);
    }

    private static void budget() {
        SafeBuckets x = Check.desk("t;sq7");
        C.due("is so", x.budget(7), NONE);
        C.due("what it was", x.budget(1), 7);
        C.due("what it was", x.budget(999), 1);
        C.due("out", x.budget(0), NONE);
        C.due("out", x.budget(1000), NONE);
        C.due("out", x.budget(LOWEST), NONE);
        C.due("as now", x.rule(2), 999);
        C.due("bounds", x.status(1), 3);
        C.due("so", x.status(2), 1);
        SafeBuckets none = new SafeBuckets();
        C.due("no book, out of bounds", none.budget(0), NONE);
        C.due("is status 0", none.status(0), 1);
    }

    private static void years() {
        SafeBuckets x = Check.desk("tv4;tv6;sd2");
        C.due("0", x.years(0, 1), NONE);
        C.due("41", x.years(41, 1), NONE);
        C.due("below", x.years(LOWEST, 1), NONE);
        C.due("no status", x.status(0) + x.status(1) + x.status(2) + x.status(3), 0);
        int all = x.years(40, 12345);
        C.due("rows of all", all, x.most(4));
        C.due("no status of years", x.status(0) + x.status(1) + x.status(2) + x.status(3), 0);
        C.due("acts", x.count(4), x.count(3));
        // By hand, as the document tells the draws.
        SafeBuckets y = Check.desk("tv4;tv6;sd2");
        long seed = 12345;
        for (int year = 0; year < 40; year++) {
            seed = oneYear(y, seed);
        }
        C.due("the same rows", y.most(4), all);
        C.due("the same log", y.count(3), x.count(3));
        for (int i = 0; i < 40; i++) {
            for (int what = 0; what < 3; what++) {
                C.due("log " + i, x.log(i, what), y.log(i, what));
            }
        }
        for (int t = 0; t < 2; t++) {
            for (int v = 0; v < 4; v++) {
                C.due("counts", x.countOf(t, 0, v), y.countOf(t, 0, v));
                C.due("counts", x.countOf(t, 1, v), y.countOf(t, 1, v));
            }
        }
        C.due("40 with the lowest seed", x.years(40, Long.MIN_VALUE) >= 0, true);
    }

    private static long seed;

    private static int draw(int of) {
        seed = seed * 6364136223846793005L + 1442695040888963407L;
        return (int) Long.remainderUnsigned(seed >>> 33, of);
    }

    private static long oneYear(SafeBuckets y, long from) {
        seed = from;
        int sort = draw(4);
        int table = draw(2);
        int values = table == 0 ? 4 : 6;
        if (sort == 3) {
            y.build(table, draw(2));
            return seed;
        }
        int a = draw(values + 1);
        int b = draw(values + 1);
        int n = draw(5) + 1;
        a = a == values ? -1 : a;
        b = b == values ? -1 : b;
        if (sort == 2) {
            y.drop(table, a, b, n);
        } else {
            y.add(table, a, b, n);
        }
        return seed;
    }

    private static void status() {
        SafeBuckets x = Check.desk("tv2;ra0b0;ra1b1;sq1", "a?");
        x.where(0, 0, 0);
        x.join(0, 0, 0, 1, 0);
        C.due("looks stopped", x.status(4), 2);
        x.add(0, 0, 0, 1);
        x.add(0, 9, 0, 1);
        x.undo();
        C.due("not undone", x.status(0), 1);
        x.image();
        x.add(0, 9, 0, 1);
        x.back();
        C.due("not brought back", x.status(0), 2);
        x.undo();
        x.log(99, 0);
        x.where(9, 9, 9);
        x.years(99, 9);
        C.due("what is no act does not count", x.status(0), 2);
        C.due("nor here", x.status(1), 0);
        C.due("status(5)", x.status(5), NONE);
        C.due("status(-1)", x.status(-1), NONE);
    }

    private static void undo() {
        SafeBuckets x = Check.desk("sb2d3q9;tv4;ra0b0n4;ra1b0n4;tv4");
        x.add(0, 3, 1, 2);
        x.drop(0, 0, 0, 3);
        x.move(0, 1, 0, -1, 2);
        x.build(0, 1);
        x.budget(5);
        C.due("five", x.count(4), 5);
        C.due("undo budget", x.undo(), 4);
        C.due("budget", x.rule(2), 9);
        C.due("undo build", x.undo(), 3);
        C.due("drift", x.column(0, 1, 1), 2);
        C.due("undo move", x.undo(), 2);
        C.due("rows", x.rows(0, 1, 0), 4);
        C.due("rows", x.rows(0, -1, 2), 0);
        C.due("missing", x.table(0, 2), 0);
        C.due("rows of all", x.table(0, 1), 7);
        C.due("undo drop", x.undo(), 1);
        C.due("undo add", x.undo(), 0);
        C.due("none", x.undo(), NONE);
        C.due("log", x.count(3), 0);
        C.due("rows", x.rows(0, 0, 0), 4);
        C.due("rows", x.rows(0, 3, 1), 0);
        C.due("count", x.countOf(0, 0, 0), 4);
        C.due("drift", x.column(0, 0, 1), 0);
        bucketRow(x, 0, 0, 0, 1, 8, 4);
        bucketRow(x, 0, 1, 2, 3, 0, 0);
        for (int i = 0; i < 44; i++) {
            x.add(1, 0, 0, 1 + i);
        }
        C.due("40 at most", x.count(4), 40);
        for (int i = 39; i >= 0; i--) {
            C.due("undo", x.undo(), i);
        }
        C.due("the 41st can't be", x.undo(), NONE);
        C.due("1 to 4 stand", x.table(1, 1), 10);
        C.due("log of 4", x.count(3), 4);
        C.due("the fourth", x.log(0, 2), 4);
    }

    private static void log() {
        SafeBuckets x = Check.desk("tv4;sd9;tv2");
        x.add(0, 1, 1, 7);
        x.drop(0, 1, 1, 2);
        x.move(0, 1, 1, 2, 2);
        x.build(0, 1);
        x.budget(50);
        x.add(1, -1, -1, 3);
        int[][] want = {{0, 1, 3}, {4, NONE, 50}, {3, 0, 1}, {2, 0, 1}, {1, 0, 2}, {0, 0, 7}};
        for (int i = 0; i < want.length; i++) {
            for (int what = 0; what < 3; what++) {
                C.due("log " + i + ", " + what, x.log(i, what), want[i][what]);
            }
        }
        C.due("no seventh", x.log(6, 0), HIDDEN);
        C.due("no -1st", x.log(-1, 0), HIDDEN);
        C.due("what 3", x.log(0, 3), HIDDEN);
        C.due("what -1", x.log(0, -1), HIDDEN);
        for (int i = 1; i <= 64; i++) {
            x.budget(i);
        }
        C.due("60 at most", x.count(3), 60);
        C.due("the latest", x.log(0, 2), 64);
        C.due("the 60th", x.log(59, 2), 5);
        C.due("no 61st", x.log(60, 2), HIDDEN);
        // Undone, the log is as it was ahead of the act: 60 long, with what had fallen out.
        for (int i = 0; i < 40; i++) {
            x.undo();
        }
        C.due("the log is as it was", x.log(0, 2), 24);
        C.due("as long as then", x.count(3), 30);
        C.due("with its oldest", x.log(29, 2), 7);
        for (int i = 101; i <= 135; i++) {
            x.budget(i);
        }
        C.due("full again", x.count(3), 60);
        x.undo();
        C.due("60 stay, one comes back", x.count(3), 60);
        C.due("the latest", x.log(0, 2), 134);
        C.due("the one that came back", x.log(59, 2), 50);
    }

    private static void whereTruth() {
        SafeBuckets x = Check.desk("tv6;ra0b0n1;ra1b1n2;ra2b2n4;ra3n8;rb4n16;rn32;tv2",
                "a<2|b>1", "a?&b?", "a=3&b?|a?&b=4", "b<99&a>0&a<3");
        C.due("a<2|b>1", x.where(0, 0, 0), 1 + 2 + 4 + 16);
        C.due("a?&b?", x.where(0, 1, 0), 32);
        C.due("two terms", x.where(0, 2, 0), 24);
        C.due("three units", x.where(0, 3, 0), 6);
        C.due("another table", x.where(1, 0, 0), 0);
        C.due("its trace", x.trace(1), 11);
        x.budget(6);
        C.due("six steps are six", x.where(0, 1, 0), 32);
        x.budget(5);
        C.due("stopped", x.where(0, 1, 0), NONE);
        C.due("status", x.status(4), 1);
        C.due("an empty table goes by no step", x.where(1, 1, 0), 0);
        C.due("no where", x.where(0, 4, 0), NONE);
        C.due("no where", x.where(0, -1, 0), NONE);
        C.due("no table", x.where(2, 0, 0), NONE);
        C.due("no table", x.where(-1, 0, 0), NONE);
        C.due("what 4", x.where(0, 0, 4), NONE);
        C.due("what -1", x.where(0, 0, -1), NONE);
        C.due("stopped once alone", x.status(4), 1);
        C.due("trace of the last one", x.trace(0), 1);
    }

    private static void bounds(SafeBuckets x, int where, int lower, int upper, int estimate) {
        C.due("lower of " + where, x.where(0, where, 1), lower);
        C.due("upper of " + where, x.where(0, where, 2), upper);
        C.due("estimate of " + where, x.where(0, where, 3), estimate);
    }

    private static void whereBounds() {
        // Column 0, one bucket of 4: 10 in all, greatest 6; column 1, one of 4: 9, greatest 9; 2 and 3 MISSING.
        SafeBuckets x = Check.desk("sb1q1;tv4;ra0b0n6;ra1b0n3;ra2n1;rn2", "a=0", "a<3", "a<9|a?", "a<3&b=0");
        bounds(x, 0, 0, 6, 2);
        bounds(x, 1, 4, 10, 7);
        bounds(x, 2, 10, 12, 12);
        bounds(x, 3, 0, 9, 2);
        C.due("no look", x.count(5), 0);
        C.due("no stop", x.status(4), 0);
        SafeBuckets y = Check.desk("sb1;tv4;ra0b0n6;ra1b0n3;ra2n1;rn2", "a>8", "a<9&b<9", "a<9|b<9", "a?|b?&a<3&b<3");
        bounds(y, 0, 0, 0, 0);
        bounds(y, 1, 7, 9, 9);
        bounds(y, 2, 10, 12, 12);
        // The second term: 3, 4 and 0 less 24 is nothing; the least upper and estimate are 3 and 3.
        bounds(y, 3, 2, 5, 5);
        // As kept, not as they are: a total of 8 with greatest 8.
        SafeBuckets z = Check.desk("sb1d99;tv2;ra0n4", "a=1");
        z.add(0, 1, -1, 4);
        bounds(z, 0, 0, 8, 4);
        z.build(0, 0);
        bounds(z, 0, 4, 4, 4);
    }

    private static void joins() {
        SafeBuckets x = Check.desk("sb2;tv4;tv6;ra0n5;ra1n5;ra3n1;rt1a0n2;rt1a1n4;rt1a5n9;rt1b2n3");
        // Buckets: 0..1 (10, 5), 2..3 (1, 1); 0..4 (6, 4), 5 (9, 9).
        C.due("truth", x.join(0, 0, 1, 0, 0), 10 + 20);
        C.due("the other way", x.join(1, 0, 0, 0, 0), 30);
        C.due("upper", x.join(0, 0, 1, 0, 1), 30 + 4);
        C.due("by degrees", x.join(0, 0, 1, 0, 2), 45 + 20 + 2);
        C.due("estimate", x.join(0, 0, 1, 0, 3), 12 + 1);
        C.due("with nothing in common", x.join(0, 0, 1, 1, 0), 0);
        SafeBuckets wide = Check.desk("tv16");
        for (int v = 0; v < 16; v++) {
            wide.add(0, v, 15 - v, v + 1);
        }
        C.due("the other way round", wide.join(0, 0, 0, 1, 0), 816);
        C.due("all sixteen degrees", wide.join(0, 0, 0, 1, 2), 1496);
        C.due("with itself", x.join(0, 0, 0, 0, 0), 51);
        C.due("no missing", x.join(0, 1, 1, 1, 0), 0);
        x.budget(2);
        C.due("three steps of the first", x.join(0, 0, 1, 1, 0), NONE);
        C.due("one of the other", x.join(1, 1, 0, 0, 0), 0);
        C.due("stopped", x.status(4), 1);
        C.due("what 4", x.join(0, 0, 1, 0, 4), NONE);
        C.due("what -1", x.join(0, 0, 1, 0, -1), NONE);
        C.due("no table", x.join(2, 0, 1, 0, 0), NONE);
        C.due("no table", x.join(0, 0, -1, 0, 0), NONE);
        C.due("no column", x.join(0, 2, 1, 0, 0), NONE);
        C.due("no column", x.join(0, 0, 1, -1, 0), NONE);
        C.due("no look", x.trace(0), 1);
    }

    private static void chains() {
        SafeBuckets x = Check.desk("sb8;tv3;tv4;tv2;rb0n2;rb1n3;rt1a0b0n5;rt1a1b1n7;rt1a3b1n9;rt1a0n9;rt2a0n4;rt2a1n1");
        C.due("what 2", x.chain(2), NONE);
        C.due("what -1", x.chain(-1), NONE);
        C.due("truth", x.chain(0), 2 * 5 * 4 + 3 * 7 * 1);
        C.due("upper", x.chain(1), Math.min((2 * 14 + 3 * 7) * 4, (5 * 4 + 16) * 3));
        x.budget(3);
        C.due("three steps", x.chain(0), 61);
        x.budget(2);
        C.due("stopped", x.chain(0), NONE);
        C.due("status", x.status(4), 1);
        C.due("trace", x.trace(3), 12);
        C.due("two tables", Check.desk("t;t").chain(0), NONE);
        C.due("two tables", Check.desk("t;t").chain(1), NONE);
        C.due("empty", Check.desk("t;t;t").chain(0), 0);
    }

    private static void traceIs(SafeBuckets x, int... want) {
        C.due("trace's length", x.count(5), want.length);
        for (int i = 0; i < want.length; i++) {
            C.due("trace " + i, x.trace(i), want[i]);
        }
        C.due("no more", x.trace(want.length), NONE);
        C.due("none ahead", x.trace(-1), NONE);
    }

    private static void trace() {
        SafeBuckets x = Check.desk("t;t;t", "a?");
        traceIs(x);
        x.join(2, 0, 1, 0, 0);
        traceIs(x, 2, 1, 11, 12);
        x.chain(0);
        traceIs(x, 0, 1, 2, 12, 11, 10);
        x.where(1, 0, 0);
        traceIs(x, 1, 11);
        x.join(1, 1, 1, 1, 0);
        traceIs(x, 1, 1, 11, 11);
        x.where(0, 0, 1);
        x.join(0, 0, 1, 0, 1);
        x.join(0, 0, 1, 0, 2);
        x.chain(1);
        x.odds(0, 0, 1, 0);
        x.narrow(0, 0, 0);
        x.undo();
        x.back();
        traceIs(x, 1, 1, 11, 11);
    }

    private static void narrow() {
        SafeBuckets x = Check.desk("sb1d99;tv2;ra0b0n4", "a=1", "b=1", "a=1&b=1", "a?");
        C.due("nothing to gain", x.narrow(0, 0, 0), NONE);
        C.due("0", x.narrow(0, 0, 1), 0);
        // As kept 8 with greatest 8, so that 1 has 0 .. 8; as they are 4 and 4, so that it had 4.
        x.add(0, 1, 1, 4);
        C.due("by column 0", x.narrow(0, 0, 0), 0);
        C.due("by as much", x.narrow(0, 0, 1), 8);
        C.due("by column 1", x.narrow(0, 1, 0), 1);
        C.due("by as much", x.narrow(0, 1, 1), 8);
        C.due("the lower of like ones", x.narrow(0, 2, 0), 0);
        C.due("from 0 .. 8 to 0 .. 4", x.narrow(0, 2, 1), 4);
        C.due("missing is known", x.narrow(0, 3, 0), NONE);
        C.due("nothing is built", x.column(0, 0, 1), 4);
        C.due("nor changed", x.where(0, 0, 2), 8);
        C.due("what 2", x.narrow(0, 0, 2), HIDDEN);
        C.due("what -1", x.narrow(0, 0, -1), HIDDEN);
        C.due("no where", x.narrow(0, 4, 0), HIDDEN);
        C.due("no table", x.narrow(1, 0, 0), HIDDEN);
    }

    private static void oddsAre(SafeBuckets x, int where, int k, long upper, long lower) {
        C.due("odds upper " + where + ", " + k, x.odds(0, where, k, 0), upper);
        C.due("odds lower " + where + ", " + k, x.odds(0, where, k, 1), lower);
    }

    private static void odds() {
        SafeBuckets x = Check.desk("sq1;tv4;ra0b0n3;ra1b0n2;rn1", "a=0", "a?", "a<9|a?", "a=3");
        oddsAre(x, 0, 1, 1, 2);
        oddsAre(x, 0, 2, 1, 5);
        oddsAre(x, 0, 3, 1, 20);
        oddsAre(x, 0, 4, 0, 1);
        oddsAre(x, 1, 2, 0, 1);
        oddsAre(x, 2, 4, 1, 1);
        oddsAre(x, 3, 1, 0, 1);
        C.due("no look, no stop", x.status(4), 0);
        C.due("k 0", x.odds(0, 0, 0, 0), NONE);
        C.due("k 5", x.odds(0, 0, 5, 0), NONE);
        C.due("what 2", x.odds(0, 0, 1, 2), NONE);
        C.due("what -1", x.odds(0, 0, 1, -1), NONE);
        C.due("no where", x.odds(0, 4, 1, 0), NONE);
        C.due("no table", x.odds(1, 0, 1, 0), NONE);
        SafeBuckets y = Check.desk("tv4;ra0b0n3", "a=0");
        oddsAre(y, 0, 3, 1, 1);
        oddsAre(y, 0, 4, NONE, NONE);
        SafeBuckets z = Check.desk("tv2", "a=0");
        oddsAre(z, 0, 1, NONE, NONE);
        for (int i = 0; i < 10; i++) {
            z.add(0, i == 0 ? 1 : 0, 0, 99);
        }
        z.add(0, 0, 0, 9);
        oddsAre(z, 0, 4, 900L * 899 * 898 * 897 / oddsDivisor(), 999L * 998 * 997 * 996 / oddsDivisor());
    }

    private static long oddsDivisor() {
        return java.math.BigInteger.valueOf(900L * 899 * 898 * 897)
                .gcd(java.math.BigInteger.valueOf(999L * 998 * 997 * 996)).longValueExact();
    }

    private static void unit() {
        SafeBuckets x = new SafeBuckets();
        C.due("told", Check.tell(x, "a<07&b?|b>99|a=0", 1), 0);
        int[][] want = {{0, 0, 1, 7}, {0, 1, 3, NONE}, {1, 1, 2, 99}, {2, 0, 0, 0}};
        for (int i = 0; i < want.length; i++) {
            for (int what = 0; what < 4; what++) {
                C.due("unit " + i + ", " + what, x.unit(0, i, what), want[i][what]);
            }
        }
        C.due("no fifth", x.unit(0, 4, 0), HIDDEN);
        C.due("no -1st", x.unit(0, -1, 0), HIDDEN);
        C.due("no where", x.unit(1, 0, 0), HIDDEN);
        C.due("no where", x.unit(-1, 0, 0), HIDDEN);
        C.due("what 4", x.unit(0, 0, 4), HIDDEN);
        C.due("what -1", x.unit(0, 0, -1), HIDDEN);
        // A text that is only looked at is no where, and spoils none.
        Check.fault(x, "b=1&b=2", 1);
        C.due("no where", x.unit(1, 0, 0), HIDDEN);
        C.due("as it was", x.unit(0, 0, 3), 7);
    }

    private static void shares() {
        SafeBuckets x = Check.desk("t;t;t;rn3;rt1n4");
        C.due("3 of 7", x.shares(0, 100), 42);
        C.due("4 of 7", x.shares(1, 100), 57);
        C.due("none of 7", x.shares(2, 999), 0);
        C.due("0", x.shares(0, 0), 0);
        C.due("999", x.shares(1, 999), 570);
        C.due("1000", x.shares(0, 1000), NONE);
        C.due("-1", x.shares(0, -1), NONE);
        C.due("no table", x.shares(3, 1), NONE);
        C.due("no table", x.shares(-1, 1), NONE);
        C.due("no rows at all", Check.desk("t").shares(0, 999), 0);
        C.due("a single one", Check.desk("t;t;rt1").shares(1, 999), 999);
    }

    private static void most() {
        SafeBuckets x = Check.desk("sb2;tv4;tv6;ra3b1n5;rn6;rt1a2b2n5;rt1a5b2n3;rt1n3");
        C.due("of like ones the lowest", x.most(0), 0);
        C.due("no drift", x.most(1), 0);
        C.due("total", x.most(2), 8);
        C.due("alike", x.most(3), 6);
        C.due("rows", x.most(4), 22);
        C.due("value", x.most(5), 2);
        x.add(1, 0, -1, 3);
        C.due("table", x.most(0), 1);
        C.due("drift", x.most(1), 10);
        x.add(0, -1, 1, 3);
        C.due("of like ones the lowest", x.most(1), 1);
        C.due("the lowest value of 8 and 8", x.most(5), 1);
        C.due("what 6", x.most(6), HIDDEN);
        C.due("what -1", x.most(-1), HIDDEN);
        SafeBuckets none = Check.desk("t;t");
        for (int what = 0; what < 6; what++) {
            C.due("of no rows", none.most(what), 0);
        }
    }

    private static void images() {
        SafeBuckets x = Check.desk("sb2d9;tv4;ra0b0n4;ra1b0n4;t");
        C.due("no image", x.back(), NONE);
        x.add(0, 3, 1, 2);
        C.due("image", x.image(), 10);
        C.due("no act", x.count(4), 1);
        C.due("can still be undone", x.undo(), 0);
        x.budget(7);
        x.drop(0, 0, 0, 4);
        x.build(0, 0);
        x.add(1, 0, 0, 9);
        C.due("back", x.back(), 10);
        C.due("rows", x.rows(0, 0, 0), 4);
        C.due("rows", x.rows(0, 3, 1), 2);
        C.due("counts", x.countOf(0, 0, 0), 4);
        C.due("the other table", x.table(1, 1), 0);
        C.due("budget", x.rule(2), 999);
        C.due("drift", x.column(0, 0, 1), 2);
        bucketRow(x, 0, 0, 0, 1, 8, 4);
        bucketRow(x, 0, 1, 2, 3, 2, 2);
        C.due("log", x.count(3), 1);
        C.due("log", x.log(0, 2), 2);
        C.due("nothing to undo", x.count(4), 0);
        C.due("nothing to undo", x.undo(), NONE);
        x.add(0, 3, 1, 2);
        C.due("undo", x.undo(), 0);
        C.due("the image stays", x.back(), 10);
        x.add(0, 3, 1, 2);
        C.due("instead of the one ahead", x.image(), 12);
        x.drop(0, 3, 1, 4);
        C.due("back to the later", x.back(), 12);
        Check.tell(x, "tv4", 0);
        C.due("no image of this book", x.back(), NONE);
    }

    private static void count() {
        SafeBuckets x = Check.desk("t;t", "a?", "b?");
        Check.tape(x, "abc");
        x.budget(5);
        x.budget(6);
        x.undo();
        x.join(0, 0, 1, 0, 0);
        int[] want = {2, 2, 3, 1, 1, 4};
        for (int what = 0; what < 6; what++) {
            C.due("count " + what, x.count(what), want[what]);
        }
        C.due("count(6)", x.count(6), HIDDEN);
        C.due("count(-1)", x.count(-1), HIDDEN);
        C.due("count lowest", x.count(LOWEST), HIDDEN);
    }
}
