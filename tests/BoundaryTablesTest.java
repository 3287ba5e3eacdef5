/** Boundary cases of tables, columns, errors and buckets (promises 6 to 15, terms 2), sentence by sentence. */
public final class BoundaryTablesTest {
    private static final int NONE = SafeBuckets.NONE;
    private static final int HIDDEN = SafeBuckets.HIDDEN;
    private static final long UNIT = 720720;
    private static final Check C = new Check();

    private BoundaryTablesTest() {
    }

    public static void main(String[] args) {
        tables();
        errors();
        leastErrors();
        likeWays();
        tries();
        rules();
        tableAnswers();
        rowsAndCounts();
        bucketAnswers();
        columnAnswers();
        errorAnswers();
        borderAnswers();
        triedAnswers();
        fewestAnswers();
        C.finish("BoundaryTablesTest");
    }

    /** One table whose column 0 has these counts; column 1 is missing everywhere. */
    private static String withCounts(String rules, int... counts) {
        StringBuilder s = new StringBuilder(rules).append("tv").append(counts.length);
        for (int v = 0; v < counts.length; v++) {
            if (counts[v] > 0) {
                s.append(";ra").append(v).append('n').append(counts[v]);
            }
        }
        return s.toString();
    }

    private static SafeBuckets full(int values, int a, int b) {
        SafeBuckets x = Check.desk("tv" + values);
        for (int i = 0; i < 10; i++) {
            x.add(0, a, b, 99);
        }
        x.add(0, a, b, 9);
        return x;
    }

    // ---- terms

    private static void tables() {
        C.about("A TABLE has ROWS (999 at most)");
        SafeBuckets x = full(2, 1, 1);
        C.due("999", x.table(0, 1), 999);
        C.due("1000", x.add(0, 1, 1, 1), NONE);
        C.due("still 999", x.table(0, 1), 999);
        C.due("one goes", x.drop(0, 1, 1, 1), 998);
        C.due("two more are one too many", x.add(0, -1, -1, 2), NONE);
        C.due("one comes", x.add(0, -1, -1, 1), 999);
        SafeBuckets told = Check.desk("t;t" + ";rn40".repeat(20));
        C.due("800 are told", told.add(0, 0, 0, 99), 899);
        C.due("998", told.add(0, 0, 0, 99), 998);
        C.due("1097", told.add(0, 0, 0, 99), NONE);
        C.due("of each table by itself", told.add(1, 0, 0, 99), 99);
        C.about("a VALUE, 0 .. VALUES less 1, or MISSING");
        for (int values = 2; values <= 16; values++) {
            SafeBuckets y = Check.desk("tv" + values);
            for (int v : new int[] {-1, 0, values - 1}) {
                C.due("a " + v + " of " + values, y.rows(0, v, 0), 0);
                C.due("b " + v + " of " + values, y.rows(0, 0, v), 0);
            }
            for (int v : Check.outside(-1, values - 1)) {
                C.due("a " + v + " of " + values, y.rows(0, v, 0), NONE);
                C.due("b " + v + " of " + values, y.rows(0, 0, v), NONE);
            }
        }
        C.about("COUNT of a VALUE in a COLUMN: how many ROWS have it.");
        SafeBuckets z = Check.desk("tv3;ra2b0n3;ra2n4;rb2n5;rn6");
        C.due("with any other and with none", z.countOf(0, 0, 2), 7);
        C.due("none", z.countOf(0, 0, 0), 0);
        C.due("in the other", z.countOf(0, 1, 2), 5);
        C.due("in the other", z.countOf(0, 1, 0), 3);
        C.due("all of them", full(16, 15, 15).countOf(0, 1, 15), 999);
    }

    private static void errors() {
        C.about("their COUNTS squared, added up, less the square of their COUNTS added up by how many VALUES they are");
        C.due("3 and 5: 34 less 32", Check.desk(withCounts("", 3, 5)).error(0, 0, 1), 2 * UNIT);
        C.due("3 and 3", Check.desk(withCounts("", 3, 3)).error(0, 0, 1), 0);
        C.due("none at all", Check.desk("tv16").error(0, 0, 1), 0);
        C.due("one value by itself has none", Check.desk(withCounts("", 3, 9)).error(0, 0, 2), 0);
        C.due("the greatest", full(2, 0, 0).error(0, 0, 1), 999L * 999 * UNIT / 2);
        C.due("the greatest of 16", full(16, 0, 0).error(0, 0, 1), 999L * 999 * UNIT / 16 * 15);
        C.about("it is a whole number");
        for (int width = 2; width <= 16; width++) {
            int[] counts = new int[width];
            counts[width - 1] = 1;
            SafeBuckets x = Check.desk(withCounts("", counts));
            C.due("1 less 1 by " + width, x.error(0, 0, 1), UNIT - UNIT / width);
        }
    }

    private static void leastErrors() {
        C.about("as many BUCKETS as told, as many as VALUES at most");
        for (int told = 1; told <= 8; told++) {
            for (int values = 2; values <= 16; values++) {
                SafeBuckets x = Check.desk("sb" + told + ";tv" + values);
                C.due(told + " of " + values, x.column(0, 0, 0), Math.min(told, values));
                C.due("as told", x.rule(0), told);
            }
        }
        C.about("VALUES one behind another, one at least in each, all of them");
        for (int told = 1; told <= 8; told++) {
            for (int values = 2; values <= 16; values += 7) {
                SafeBuckets x = Check.desk("sb" + told + ";tv" + values + ";ra0n9;ra1n3;ra" + (values - 1) + "n7");
                int next = 0;
                for (int i = 0; i < x.column(0, 0, 0); i++) {
                    C.due("first", x.bucket(0, 0, i, 0), next);
                    C.due("one at least", x.bucket(0, 0, i, 1) >= next, true);
                    next = x.bucket(0, 0, i, 1) + 1;
                }
                C.due("all", next, values);
            }
        }
        C.about("so that their ERRORS added up are the least that can be");
        SafeBuckets y = Check.desk(withCounts("sb2;", 1, 2, 9, 9, 8));
        // 1 2 | 9 9 8 costs 1/2 and 2/3.
        C.due("the second begins", y.bucket(0, 0, 1, 0), 2);
        C.due("costs", y.error(0, 0, 2), UNIT / 2 + UNIT * 2 / 3);
        C.due("as many as values: nothing", y.error(0, 0, 5), 0);
        C.due("one less: 9 9 together", y.error(0, 0, 4), 0);
        C.due("two less: 1 2 or 9 9 8 together", y.error(0, 0, 3), UNIT / 2);
        C.about("Of each BUCKET is kept: its first VALUE, its last one, TOTAL (COUNTS added up), GREATEST (the greatest COUNT).");
        C.due("first", y.bucket(0, 0, 1, 0), 2);
        C.due("last", y.bucket(0, 0, 1, 1), 4);
        C.due("total", y.bucket(0, 0, 1, 2), 26);
        C.due("greatest", y.bucket(0, 0, 1, 3), 9);
        C.due("total of none", Check.desk("t").bucket(0, 0, 2, 2), 0);
        C.due("greatest of none", Check.desk("t").bucket(0, 0, 2, 3), 0);
        C.due("total of all there can be", full(16, 9, 9).bucket(0, 1, 1, 2), 999);
        C.about("The DRIFT of the COLUMN is 0 then.");
        C.due("as told", y.column(0, 0, 1), 0);
        y.add(0, 0, -1, 20);
        C.due("drifted", y.column(0, 0, 1), 20);
        y.build(0, 0);
        C.due("built", y.column(0, 0, 1), 0);
    }

    private static void borders(String what, String book, int... want) {
        SafeBuckets x = Check.desk(book);
        for (int i = 0; i < want.length; i++) {
            C.due(what + ", border " + i, x.border(0, 0, want.length, i), want[i]);
            if (want.length == x.rule(0)) {
                C.due(what + ", bucket " + i, x.bucket(0, 0, i, 0), want[i]);
            }
        }
    }

    private static void likeWays() {
        C.about("of several ways that whose second BUCKET begins the lowest, of these the third, and so on");
        borders("1 | 0 1 as 1 0 | 1", withCounts("sb2;", 1, 0, 1), 0, 1);
        borders("none at all", "sb8;tv16", 0, 1, 2, 3, 4, 5, 6, 7);
        borders("the third too", withCounts("sb3;", 5, 1, 0, 1), 0, 1, 2);
        borders("the second ahead of the third", withCounts("sb3;", 1, 0, 1, 9), 0, 1, 3);
        borders("the fourth too", withCounts("sb4;", 9, 5, 1, 0, 1), 0, 1, 2, 3);
        borders("only one way is best", withCounts("sb2;", 0, 0, 0, 1), 0, 3);
        borders("all alike", withCounts("sb3;", 4, 4, 4, 4, 4, 4), 0, 1, 2);
    }

    private static void tries() {
        C.about("by 1: one try");
        for (int values = 2; values <= 16; values++) {
            C.due("of " + values, Check.desk("tv" + values).tried(0, 0, 1, 0), values);
        }
        C.about("behind a try whose first ERROR alone is not below the least sum so far (this one's, too) it stops");
        // From 0 on: 0 | 2 5 5 costs 6, 0 2 | 5 5 costs 2, which is its first ERROR alone: no third try.
        SafeBuckets x = Check.desk(withCounts("", 0, 2, 5, 5));
        C.due("4, and 2, 1, 1", x.tried(0, 0, 2, 0), 8);
        // 0 | 2 5 costs 4.5 and is tried as 0 2 | 5, which is 2.
        SafeBuckets y = Check.desk(withCounts("", 0, 2, 5));
        C.due("3, and 2, 1", y.tried(0, 0, 2, 0), 6);
        C.due("one more each", y.tried(0, 0, 3, 0), 7);
        C.due("nothing to gain: the first stops", Check.desk("tv16").tried(0, 0, 2, 0), 16 + 15);
        C.due("by all", Check.desk("tv16").tried(0, 0, 16, 0), 16 * 17 / 2);
        // 9 | 0 0 1: 2/3; 9 0 | 0 1: 40.5 is above that: no third.
        C.due("a worse one stops", Check.desk(withCounts("", 9, 0, 0, 1)).tried(0, 0, 2, 0), 4 + 2 + 2 + 1);
        C.about("e rising from v and 1 (to VALUES less j and 1)");
        // 0 0 0 7 and 0 0 0 0 7: no first ERROR stops ahead of the last e, as the rest costs until then.
        C.due("0 0 7 by 2", Check.desk(withCounts("", 0, 0, 7)).tried(0, 0, 2, 0), 3 + 2 + 1);
        C.due("0 0 0 7 by 2", Check.desk(withCounts("", 0, 0, 0, 7)).tried(0, 0, 2, 0), 4 + 3 + 2 + 1);
        C.due("0 0 0 0 7 by 2", Check.desk(withCounts("", 0, 0, 0, 0, 7)).tried(0, 0, 2, 0), 5 + 4 + 3 + 2 + 1);
        C.due("2 by 2", Check.desk(withCounts("", 1, 2)).tried(0, 0, 2, 0), 2 + 1);
        C.about("PLAIN: how many tries there would be, if it never stopped.");
        C.due("2 by 1", Check.desk("tv2").tried(0, 0, 1, 1), 2);
        C.due("2 by 2", Check.desk("tv2").tried(0, 0, 2, 1), 3);
        C.due("4 by 2", x.tried(0, 0, 2, 1), 4 + 3 + 2 + 1);
        for (int k = 1; k <= 16; k++) {
            int plain = 16;
            for (int j = 2; j <= k; j++) {
                plain += (16 - j + 1) * (16 - j + 2) / 2;
            }
            C.due("16 by " + k, Check.desk("tv16").tried(0, 0, k, 1), plain);
        }
    }

    // ---- promises 6 to 15

    private static void rules() {
        C.about("0 BUCKETS, 1 DRIFT, both as told, 2 BUDGET as now. NONE: no BOOK, no such what.");
        SafeBuckets none = new SafeBuckets();
        for (int what = -1; what <= 3; what++) {
            C.due("no book", none.rule(what), NONE);
        }
        SafeBuckets x = Check.desk("sb8d99q1;tv2;ra0n9");
        C.due("as told, with two values", x.rule(0), 8);
        x.add(0, 0, 0, 50);
        C.due("as told, drifted", x.rule(1), 99);
        x.budget(999);
        C.due("as now", x.rule(2), 999);
        x.undo();
        C.due("as now", x.rule(2), 1);
        for (int what : Check.outside(0, 2)) {
            C.due("what " + what, x.rule(what), NONE);
        }
    }

    private static void tableAnswers() {
        C.about("NoSuchElementException: no such ones.");
        SafeBuckets none = new SafeBuckets();
        for (int what = -1; what <= 4; what++) {
            C.noSuchTable(none, 0, what);
            C.noSuchTable(none, -1, what);
        }
        for (int tables = 1; tables <= 3; tables++) {
            SafeBuckets x = Check.desk("t" + ";t".repeat(tables - 1));
            for (int table : Check.outside(0, tables - 1)) {
                for (int what = 0; what <= 3; what++) {
                    C.noSuchTable(x, table, what);
                }
            }
            for (int what : Check.outside(0, 3)) {
                C.noSuchTable(x, tables - 1, what);
            }
            C.due("the last", x.table(tables - 1, 0), 8);
            C.due("missing", x.table(tables - 1, 3), 0);
        }
        SafeBuckets y = full(3, -1, -1);
        C.due("all missing", y.table(0, 2), 999);
        C.due("all missing", y.table(0, 3), 999);
        C.due("no status", y.status(0), 0);
    }

    private static void rowsAndCounts() {
        C.about("How many ROWS have a in COLUMN 0 and b in COLUMN 1 (VALUES, or NONE: MISSING). NONE: no such ones.");
        C.due("no book", new SafeBuckets().rows(0, -1, -1), NONE);
        SafeBuckets x = Check.desk("tv3;tv16;ra2b2n40;rt1a15b15n9;rt1n4");
        C.due("2, 2", x.rows(0, 2, 2), 40);
        C.due("15, 15", x.rows(1, 15, 15), 9);
        C.due("missing, missing", x.rows(1, -1, -1), 4);
        C.due("none", x.rows(1, -1, 15), 0);
        for (int table : Check.outside(0, 1)) {
            C.due("table " + table, x.rows(table, 0, 0), NONE);
        }
        for (int v : Check.outside(-1, 2)) {
            C.due("a " + v, x.rows(0, v, 2), NONE);
            C.due("b " + v, x.rows(0, 2, v), NONE);
            C.due("both " + v, x.rows(0, v, v), NONE);
        }
        C.about("COUNT of a VALUE in a COLUMN. NONE: no such ones.");
        C.due("no book", new SafeBuckets().countOf(0, 0, 0), NONE);
        C.due("the last", x.countOf(1, 1, 15), 9);
        for (int table : Check.outside(0, 1)) {
            C.due("table " + table, x.countOf(table, 0, 0), NONE);
        }
        for (int column : Check.outside(0, 1)) {
            C.due("column " + column, x.countOf(0, column, 0), NONE);
        }
        for (int value : Check.outside(0, 2)) {
            C.due("value " + value, x.countOf(0, 0, value), NONE);
            C.due("value " + value, x.countOf(0, 1, value), NONE);
        }
        C.due("16 of 16", x.countOf(1, 0, 16), NONE);
    }

    private static void bucketAnswers() {
        C.about("0 the first VALUE, 1 the last one, 2 TOTAL, 3 GREATEST, all as kept. HIDDEN: no such ones.");
        C.due("no book", new SafeBuckets().bucket(0, 0, 0, 0), HIDDEN);
        SafeBuckets x = Check.desk(withCounts("sb2d9;", 4, 4, 0) + ";tv16");
        x.add(0, 2, -1, 3);
        x.add(0, 0, -1, 2);
        int[][] kept = {{0, 1, 10, 6}, {2, 2, 3, 3}};
        for (int i = 0; i < 2; i++) {
            for (int what = 0; what < 4; what++) {
                C.due("bucket " + i + ", " + what, x.bucket(0, 0, i, what), kept[i][what]);
            }
        }
        C.due("the last value of 16", x.bucket(1, 1, 1, 1), 15);
        for (int table : Check.outside(0, 1)) {
            C.due("table " + table, x.bucket(table, 0, 0, 0), HIDDEN);
        }
        for (int column : Check.outside(0, 1)) {
            C.due("column " + column, x.bucket(0, column, 0, 0), HIDDEN);
        }
        for (int i : Check.outside(0, 1)) {
            C.due("bucket " + i, x.bucket(0, 0, i, 0), HIDDEN);
        }
        for (int what : Check.outside(0, 3)) {
            C.due("what " + what, x.bucket(0, 0, 0, what), HIDDEN);
        }
        SafeBuckets eight = Check.desk("sb8;tv8;tv2");
        C.due("the eighth", eight.bucket(0, 0, 7, 1), 7);
        C.due("no ninth", eight.bucket(0, 0, 8, 1), HIDDEN);
        C.due("two of two values", eight.bucket(1, 0, 1, 1), 1);
        C.due("no third", eight.bucket(1, 0, 2, 1), HIDDEN);
    }

    private static void columnAnswers() {
        C.about("0 how many BUCKETS, 1 its DRIFT, 2 WORST, 3 SPARE. NONE: no such ones.");
        C.due("no book", new SafeBuckets().column(0, 0, 0), NONE);
        SafeBuckets x = Check.desk("sd9;t;t");
        for (int table : Check.outside(0, 1)) {
            C.due("table " + table, x.column(table, 0, 0), NONE);
        }
        for (int column : Check.outside(0, 1)) {
            C.due("column " + column, x.column(0, column, 0), NONE);
        }
        for (int what : Check.outside(0, 3)) {
            C.due("what " + what, x.column(0, 0, what), NONE);
        }
        C.due("the last", x.column(1, 1, 3), 9);
        C.about("WORST: the BUCKET with the greatest ERROR by COUNTS as they are (of several the lowest).");
        C.due("all alike", x.column(0, 0, 2), 0);
        SafeBuckets y = Check.desk(withCounts("sb2d99;", 5, 5, 1, 1));
        y.add(0, 1, -1, 4);
        y.add(0, 3, -1, 4);
        C.due("8 and 8", y.column(0, 0, 2), 0);
        y.add(0, 3, -1, 1);
        C.due("8 and 12.5", y.column(0, 0, 2), 1);
        y.drop(0, 1, -1, 4);
        C.due("by counts, not by what is kept", y.bucket(0, 0, 0, 3), 9);
        C.due("0 and 12.5", y.column(0, 0, 2), 1);
        y.add(0, 1, -1, 9);
        C.due("40.5 and 12.5", y.column(0, 0, 2), 0);
        C.about("SPARE: DRIFT as told less that of the COLUMN.");
        SafeBuckets z = Check.desk("sd5;tv2");
        C.due("all", z.column(0, 0, 3), 5);
        z.add(0, 0, -1, 5);
        C.due("none", z.column(0, 0, 3), 0);
        C.due("of the other all", z.column(0, 1, 3), 5);
        z.add(0, 0, -1, 1);
        C.due("all again", z.column(0, 0, 3), 5);
        C.due("of 0", Check.desk("sd0;t").column(0, 0, 3), 0);
        C.due("of 99", Check.desk("sd99;t").column(0, 0, 3), 99);
    }

    private static void errorAnswers() {
        C.about("The least ERROR of a COLUMN by k BUCKETS (1 .. its VALUES), as it is now. NONE: no such ones.");
        C.due("no book", new SafeBuckets().error(0, 0, 1), NONE);
        SafeBuckets x = Check.desk(withCounts("sb1d99;", 1, 2, 3) + ";tv16");
        C.due("1", x.error(0, 0, 1), 2 * UNIT);
        C.due("3", x.error(0, 0, 3), 0);
        C.due("more than told", x.error(0, 0, 2), UNIT / 2);
        C.due("16", x.error(1, 0, 16), 0);
        for (int k : Check.outside(1, 3)) {
            C.due("k " + k, x.error(0, 0, k), NONE);
        }
        C.due("17 of 16", x.error(1, 0, 17), NONE);
        for (int table : Check.outside(0, 1)) {
            C.due("table " + table, x.error(table, 0, 1), NONE);
        }
        for (int column : Check.outside(0, 1)) {
            C.due("column " + column, x.error(0, column, 1), NONE);
        }
        x.add(0, 0, -1, 2);
        C.due("3 2 3 as it is now", x.error(0, 0, 1), UNIT * 2 / 3);
    }

    private static void borderAnswers() {
        C.about("The first VALUE of the i-th of k BUCKETS, were the COLUMN BUILT now by so many. NONE: no such ones.");
        C.due("no book", new SafeBuckets().border(0, 0, 1, 0), NONE);
        SafeBuckets x = Check.desk(withCounts("sb1d99;", 9, 9, 1) + ";tv16");
        C.due("0 of 1", x.border(0, 0, 1, 0), 0);
        C.due("0 of 3", x.border(0, 0, 3, 0), 0);
        C.due("1 of 2", x.border(0, 0, 2, 1), 2);
        C.due("2 of 3", x.border(0, 0, 3, 2), 2);
        C.due("15 of 16", x.border(1, 0, 16, 15), 15);
        C.due("16 of 16", x.border(1, 0, 16, 16), NONE);
        for (int k = 1; k <= 3; k++) {
            for (int i : Check.outside(0, k - 1)) {
                C.due("i " + i + " of " + k, x.border(0, 0, k, i), NONE);
            }
        }
        for (int k : Check.outside(1, 3)) {
            C.due("k " + k, x.border(0, 0, k, 0), NONE);
        }
        C.due("17 of 16", x.border(1, 0, 17, 16), NONE);
        for (int table : Check.outside(0, 1)) {
            C.due("table " + table, x.border(table, 0, 1, 0), NONE);
        }
        for (int column : Check.outside(0, 1)) {
            C.due("column " + column, x.border(0, column, 1, 0), NONE);
        }
        x.drop(0, 1, -1, 8);
        C.due("9 | 1 1 now", x.border(0, 0, 2, 1), 1);
        C.due("it is not built by that", x.bucket(0, 0, 0, 3), 9);
    }

    private static void triedAnswers() {
        C.about("TRIED (0), PLAIN (1) of a COLUMN by k BUCKETS, as it is now. NONE: no such ones.");
        C.due("no book", new SafeBuckets().tried(0, 0, 1, 0), NONE);
        SafeBuckets x = Check.desk(withCounts("sb1d99;", 0, 0, 5, 5) + ";tv16");
        for (int what : Check.outside(0, 1)) {
            C.due("what " + what, x.tried(0, 0, 1, what), NONE);
        }
        for (int k : Check.outside(1, 4)) {
            C.due("k " + k, x.tried(0, 0, k, 0), NONE);
            C.due("k " + k, x.tried(0, 0, k, 1), NONE);
        }
        for (int table : Check.outside(0, 1)) {
            C.due("table " + table, x.tried(table, 0, 1, 0), NONE);
        }
        for (int column : Check.outside(0, 1)) {
            C.due("column " + column, x.tried(0, column, 1, 0), NONE);
        }
        C.due("0 0 5 5", x.tried(0, 0, 2, 0), 4 + 2 + 1 + 1);
        C.due("17 of 16", x.tried(1, 0, 17, 1), NONE);
        C.due("16 of 16", x.tried(1, 0, 16, 0), 136);
        x.add(0, 0, -1, 5);
        x.add(0, 1, -1, 5);
        C.due("5 5 5 5 now", x.tried(0, 0, 2, 0), 4 + 1 + 1 + 1);
    }

    private static void fewestAnswers() {
        C.about("FEWEST for an ERROR: by how few BUCKETS a COLUMN as it is now has no more.");
        SafeBuckets x = Check.desk(withCounts("sb1d99;", 1, 2, 3) + ";tv16");
        C.due("just enough for 1", x.fewest(0, 0, 2 * UNIT), 1);
        C.due("one too little for 1", x.fewest(0, 0, 2 * UNIT - 1), 2);
        C.due("just enough for 2", x.fewest(0, 0, UNIT / 2), 2);
        C.due("one too little for 2", x.fewest(0, 0, UNIT / 2 - 1), 3);
        C.due("none: as many as values", x.fewest(0, 0, 0), 3);
        C.due("the highest", x.fewest(0, 0, Long.MAX_VALUE), 1);
        C.due("beyond an int", x.fewest(0, 0, 1L << 32), 1);
        C.due("all alike", x.fewest(1, 0, 0), 1);
        for (int v = 0; v < 16; v++) {
            x.add(1, v, -1, v + 1);
        }
        C.due("16 of 16 as it is now", x.fewest(1, 0, 0), 16);
        C.about("FEWEST. NONE: no such COLUMN, the ERROR is below 0.");
        C.due("no book", new SafeBuckets().fewest(0, 0, 0), NONE);
        C.due("-1", x.fewest(0, 0, -1), NONE);
        C.due("the lowest", x.fewest(0, 0, Long.MIN_VALUE), NONE);
        C.due("below an int", x.fewest(0, 0, -(1L << 32)), NONE);
        C.due("0", x.fewest(0, 1, 0), 1);
        for (int table : Check.outside(0, 1)) {
            C.due("table " + table, x.fewest(table, 0, 0), NONE);
        }
        for (int column : Check.outside(0, 1)) {
            C.due("column " + column, x.fewest(0, column, 0), NONE);
        }
    }
}
