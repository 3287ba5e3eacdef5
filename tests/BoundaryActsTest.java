/** Boundary cases of acts, their status, their undoing, their log (promises 16 to 20, 22 to 24, terms 2). */
public final class BoundaryActsTest {
    private static final int NONE = SafeBuckets.NONE;
    private static final int HIDDEN = SafeBuckets.HIDDEN;
    private static final Check C = new Check();

    private BoundaryActsTest() {
    }

    public static void main(String[] args) {
        buckets();
        drifts();
        moves();
        undone();
        undoneAsItWas();
        statusSorts();
        statusRules();
        logs();
        addAnswers();
        dropAnswers();
        moveAnswers();
        buildAnswers();
        budgetAnswers();
        statusAnswers();
        undoAnswers();
        logAnswers();
        C.finish("BoundaryActsTest");
    }

    /** The five numbers of status are these. */
    private static void statusIs(SafeBuckets x, int... want) {
        for (int what = 0; what < 5; what++) {
            C.due("status " + what, x.status(what), want[what]);
        }
    }

    private static void bucketIs(SafeBuckets x, int column, int total, int greatest) {
        C.due("total", x.bucket(0, column, 0, 2), total);
        C.due("greatest", x.bucket(0, column, 0, 3), greatest);
    }

    // ---- terms

    private static void buckets() {
        C.about("of each COLUMN with a VALUE the BUCKET of that has n more as TOTAL, as GREATEST, too, but TOTAL at most");
        SafeBuckets x = Check.desk("sb1d99;tv4;ra0n6;ra1n4");
        x.add(0, 3, -1, 1);
        bucketIs(x, 0, 11, 7);
        bucketIs(x, 1, 0, 0);
        x.add(0, -1, 2, 5);
        bucketIs(x, 0, 11, 7);
        bucketIs(x, 1, 5, 5);
        x.add(0, 3, 3, 80);
        bucketIs(x, 0, 91, 87);
        bucketIs(x, 1, 85, 85);
        x.add(0, -1, -1, 99);
        bucketIs(x, 0, 91, 87);
        bucketIs(x, 1, 85, 85);
        SafeBuckets two = Check.desk("sb2d99;tv4;ra0n6;ra1n6");
        two.add(0, 1, -1, 2);
        bucketIs(two, 0, 14, 8);
        two.add(0, 2, -1, 2);
        bucketIs(two, 0, 14, 8);
        C.due("the lowest value of the next one", two.bucket(0, 0, 1, 2), 2);
        two.add(0, 3, -1, 3);
        C.due("the last value of the last one", two.bucket(0, 0, 1, 2), 5);
        C.about("TOTAL is n less, GREATEST is TOTAL, if it was more");
        SafeBuckets y = Check.desk("sb1d99;tv4;ra0n6;ra1n4");
        y.drop(0, 1, -1, 3);
        bucketIs(y, 0, 7, 6);
        y.drop(0, 1, -1, 1);
        bucketIs(y, 0, 6, 6);
        y.drop(0, 0, -1, 1);
        bucketIs(y, 0, 5, 5);
        y.drop(0, 0, -1, 5);
        bucketIs(y, 0, 0, 0);
        y.add(0, -1, 1, 2);
        y.drop(0, -1, 1, 2);
        bucketIs(y, 0, 0, 0);
        bucketIs(y, 1, 0, 0);
    }

    private static void drifts() {
        C.about("In both the DRIFT of that COLUMN is n more");
        SafeBuckets x = Check.desk("sd99;tv4;ra0b0n9");
        x.add(0, 1, -1, 5);
        C.due("with a value", x.column(0, 0, 1), 5);
        C.due("without", x.column(0, 1, 1), 0);
        x.drop(0, 0, 0, 7);
        C.due("by what goes", x.column(0, 0, 1), 12);
        C.due("by what goes", x.column(0, 1, 1), 7);
        x.add(0, -1, -1, 99);
        C.due("by none", x.column(0, 0, 1), 12);
        C.due("by none", x.column(0, 1, 1), 7);
        C.about("is it above DRIFT as told then, it is BUILT (COLUMN 0 ahead of COLUMN 1)");
        SafeBuckets y = Check.desk("sb1d5;tv4;ra0b0n9");
        y.add(0, 1, -1, 5);
        C.due("5 is not above 5", y.column(0, 0, 1), 5);
        bucketIs(y, 0, 14, 14);
        y.drop(0, 1, -1, 1);
        C.due("6 is", y.column(0, 0, 1), 0);
        bucketIs(y, 0, 13, 9);
        y.add(0, 2, 2, 6);
        C.due("6 at once", y.column(0, 0, 1), 0);
        C.due("in both", y.column(0, 1, 1), 0);
        bucketIs(y, 0, 19, 9);
        bucketIs(y, 1, 15, 9);
        y.drop(0, 0, 0, 5);
        C.due("one more alone is missing", y.column(0, 0, 1), 5);
        bucketIs(y, 0, 14, 9);
        y.drop(0, 0, 0, 1);
        bucketIs(y, 0, 13, 6);
        bucketIs(y, 1, 9, 6);
        SafeBuckets never = Check.desk("sb1d99;tv4;ra0b0n9");
        never.add(0, 1, 1, 99);
        C.due("99 is not above 99", never.column(0, 1, 1), 99);
        bucketIs(never, 1, 108, 108);
        never.add(0, 2, -1, 1);
        C.due("100 is", never.column(0, 0, 1), 0);
        C.due("not in the other", never.column(0, 1, 1), 99);
        SafeBuckets ever = Check.desk("sb1d0;tv4;ra0b0n9");
        ever.add(0, 1, 1, 1);
        C.due("1 is above 0", ever.column(0, 0, 1), 0);
        bucketIs(ever, 0, 10, 9);
        bucketIs(ever, 1, 10, 9);
        C.about("As a BOOK is told all COLUMNS are BUILT.");
        SafeBuckets z = Check.desk("sb1d0;tv4;tv4;ra1b3n40;ra1b3n2;ra0b2;rt1a3n7;rt1b3n8");
        bucketIs(z, 0, 43, 42);
        bucketIs(z, 1, 43, 42);
        C.due("of the last table", z.bucket(1, 1, 0, 3), 8);
        C.due("no drift", z.most(1), 0);
        C.due("no act", z.count(3), 0);
    }

    private static void moves() {
        C.about("To MOVE a ROW: it is DROPPED, then another one ADDED.");
        SafeBuckets x = Check.desk("sb1d2;tv3;ra0n3;ra1n5");
        x.add(0, 0, -1, 2);
        // Dropped, 4 5 0 is built; 1 more then. The other way round 5 5 1 would be.
        C.due("moved", x.move(0, 0, -1, 2, -1), 1);
        bucketIs(x, 0, 10, 6);
        C.due("drift", x.column(0, 0, 1), 1);
        SafeBuckets y = Check.desk("sb1d9;tv3;ra0b0n3");
        y.move(0, 0, 0, 0, -1);
        C.due("of a column that keeps its value two", y.column(0, 0, 1), 2);
        C.due("of a column that loses it one", y.column(0, 1, 1), 1);
        y.move(0, 0, -1, 0, 1);
        C.due("of a column that gets one one", y.column(0, 1, 1), 2);
        SafeBuckets z = Check.desk("tv2;r");
        C.due("from missing", z.move(0, -1, -1, 1, 1), 1);
        C.due("none is left", z.rows(0, -1, -1), 0);
        C.due("to missing", z.move(0, 1, 1, -1, -1), 1);
        SafeBuckets full = full();
        C.due("among 999", full.move(0, 0, 0, 1, 1), 1);
        C.due("still 999", full.table(0, 1), 999);
    }

    private static SafeBuckets full() {
        SafeBuckets x = Check.desk("tv2;tv2");
        for (int i = 0; i < 10; i++) {
            x.add(0, 0, 0, 99);
        }
        x.add(0, 0, 0, 9);
        return x;
    }

    private static void undone() {
        C.about("the latest 40 can be UNDONE one by one (the LOG, too)");
        for (int acts : new int[] {39, 40, 41, 80, 81}) {
            SafeBuckets x = Check.desk("tv2");
            for (int i = 1; i <= acts; i++) {
                x.add(0, 0, 0, i % 9 + 1);
            }
            int most = Math.min(acts, 40);
            C.due("of " + acts, x.count(4), most);
            for (int left = most - 1; left >= 0; left--) {
                C.due("left", x.undo(), left);
                C.due("its log", x.log(0, 2), acts - most + left == 0 ? HIDDEN : (acts - most + left) % 9 + 1);
            }
            C.due("no more", x.undo(), NONE);
            int rows = 0;
            for (int i = 1; i <= acts - most; i++) {
                rows += i % 9 + 1;
            }
            C.due("rows of those ahead", x.table(0, 1), rows);
            C.due("log of those ahead", x.count(3), acts - most);
        }
        SafeBuckets again = Check.desk("tv2");
        for (int round = 0; round < 3; round++) {
            for (int i = 0; i < 50; i++) {
                again.budget(i + 1);
            }
            for (int i = 0; i < 40; i++) {
                again.undo();
            }
            C.due("10 of 50 stay", again.rule(2), 10);
            C.due("none can be undone", again.count(4), 0);
            again.budget(999);
        }
    }

    /** Acts of every sort, on the second and the third table; which one, whether it was done. */
    private static boolean actOf(SafeBuckets x, int sort, int i) {
        switch (sort) {
            case 0: return x.add(1 + i % 2, i % 4 - 1, i % 3 - 1, i % 5 + 1) != NONE;
            case 1: return x.drop(1, 1, 1, 1) != NONE;
            case 2: return x.move(2, i % 2, i % 2, -1, (i + 1) % 3) != NONE;
            case 3: return x.build(1 + i % 2, i / 2 % 2) != NONE;
            default: return x.budget(i % 900 + 50) != NONE;
        }
    }

    private static void undoneAsItWas() {
        C.about("All these are ACTS");
        String book = "sb2d6;tv2;tv3;tv3;ra0b0n3;rt1a1b1n40;rt1a1b1n40;rt2a0b0n40;rt2a1b1n40";
        for (int sort = 0; sort < 5; sort++) {
            SafeBuckets x = Check.desk(book);
            x.add(1, 2, 2, 1);
            x.add(2, 2, 2, 1);
            x.add(1, 0, 1, 2);
            Reading ahead = Reading.of(x);
            C.due("sort " + sort, actOf(x, sort, 0), true);
            C.due("in the log", x.log(0, 0), sort);
            C.due("undone", x.undo(), 3);
            Reading.of(x).sameAs(ahead, null, 0, C, "sort " + sort + " undone");
        }
        // Forty of a sort behind forty of another: what an act was made of is not mixed up.
        for (int first = 0; first < 5; first++) {
            for (int then = 0; then < 5; then++) {
                SafeBuckets x = Check.desk(book);
                Reading ahead = Reading.of(x);
                for (int sort : new int[] {first, then}) {
                    int done = 0;
                    for (int i = 0; i < 40; i++) {
                        done += actOf(x, sort, i) ? 1 : 0;
                    }
                    for (int left = done - 1; left >= 0; left--) {
                        C.due("undone", x.undo(), left);
                    }
                }
                C.due("no more", x.undo(), NONE);
                int refused = x.status(2);
                Reading.of(x).sameAs(ahead, "status 2", refused, C, "sorts " + first + ", " + then);
            }
        }
    }

    private static void statusSorts() {
        C.about("how many ACTS were refused as there was no such one, no BOOK (0)");
        SafeBuckets none = new SafeBuckets();
        none.add(0, 0, 0, 1);
        none.drop(0, 0, 0, 1);
        none.move(0, 0, 0, 1, 1);
        none.build(0, 0);
        none.budget(5);
        statusIs(none, 5, 0, 0, 0, 0);
        SafeBuckets x = Check.desk("tv2;ra0b0n3");
        x.add(1, 0, 0, 1);
        x.drop(0, 2, 0, 1);
        x.move(0, 0, 0, 0, 2);
        x.build(0, 2);
        statusIs(x, 4, 0, 0, 0, 0);
        C.about("out of bounds (1)");
        SafeBuckets y = Check.desk("tv2;ra0b0n3");
        y.add(0, 0, 0, 0);
        y.drop(0, 0, 0, 100);
        y.budget(1000);
        statusIs(y, 0, 3, 0, 0, 0);
        C.about("it is so (2)");
        SafeBuckets z = Check.desk("sq7;tv2;ra0b0n3");
        z.move(0, 0, 0, 0, 0);
        z.build(0, 0);
        z.budget(7);
        statusIs(z, 0, 0, 3, 0, 0);
        C.about("too much (beyond 999, not so many ROWS) (3)");
        SafeBuckets full = full();
        full.add(0, 0, 0, 1);
        full.drop(0, 1, 1, 1);
        full.move(0, 1, 1, 0, 0);
        statusIs(full, 0, 0, 0, 3, 0);
        C.about("how many LOOKS were STOPPED (4)");
        SafeBuckets look = Check.desk("sq1;tv2;tv2;tv2;ra0b0;ra1b1;rt1a0b0;rt1a1b1", "a?");
        look.where(0, 0, 0);
        look.join(0, 0, 0, 0, 0);
        look.chain(0);
        statusIs(look, 0, 0, 0, 0, 3);
    }

    private static void statusRules() {
        C.about("of several the first");
        SafeBuckets none = new SafeBuckets();
        none.add(9, 9, 9, 100);
        none.budget(0);
        statusIs(none, 2, 0, 0, 0, 0);
        SafeBuckets x = full();
        x.add(2, 0, 0, 100);
        x.add(0, 0, 2, 100);
        x.add(0, 2, 0, 99);
        x.drop(0, -2, 0, 0);
        x.drop(0, 2, 2, 99);
        x.move(0, 2, 2, 2, 2);
        x.move(0, 1, 1, 2, 1);
        statusIs(x, 7, 0, 0, 0, 0);
        x.add(0, 0, 0, 100);
        x.drop(0, 1, 1, 100);
        statusIs(x, 7, 2, 0, 0, 0);
        x.move(0, 1, 1, 1, 1);
        statusIs(x, 7, 2, 1, 0, 0);
        C.about("not UNDONE");
        SafeBuckets y = Check.desk("sq1;tv2;ra0b0;ra1b1", "a?");
        y.add(0, 0, 0, 1);
        y.add(5, 0, 0, 1);
        y.budget(0);
        y.move(0, 0, 0, 0, 0);
        y.drop(0, 1, 1, 9);
        y.where(0, 0, 0);
        C.due("undone", y.undo(), 0);
        statusIs(y, 1, 1, 1, 1, 1);
    }

    private static void logs() {
        C.about("The LOG: of each ACT its sort (0 ADD, 1 DROP, 2 MOVE, 3 BUILD, 4 BUDGET), the TABLE (BUDGET: NONE), a number (n; the COLUMN; the BUDGET): the latest 60.");
        SafeBuckets x = Check.desk("sd99;tv2;tv2;tv2");
        x.add(2, 0, 0, 99);
        x.drop(2, 0, 0, 1);
        x.move(2, 0, 0, 1, 1);
        x.build(2, 1);
        x.budget(1);
        int[][] want = {{4, NONE, 1}, {3, 2, 1}, {2, 2, 1}, {1, 2, 1}, {0, 2, 99}};
        for (int i = 0; i < 5; i++) {
            for (int what = 0; what < 3; what++) {
                C.due("log " + i + ", " + what, x.log(i, what), want[i][what]);
            }
        }
        for (int acts : new int[] {59, 60, 61, 99, 100, 101, 161}) {
            SafeBuckets y = Check.desk("t");
            for (int i = 1; i <= acts; i++) {
                y.budget(i);
            }
            int shown = Math.min(acts, 60);
            C.due("length of " + acts, y.count(3), shown);
            C.due("the latest of " + acts, y.log(0, 2), acts);
            C.due("the oldest of " + acts, y.log(shown - 1, 2), acts - shown + 1);
            C.due("one ahead of " + acts, y.log(shown, 2), HIDDEN);
        }
    }

    // ---- promises 16 to 20

    private static void addAnswers() {
        C.about("ADD (a, b: VALUES, or NONE: MISSING): ROWS of the TABLE then.");
        SafeBuckets m = Check.desk("tv2;tv16");
        C.due("missing both", m.add(0, NONE, NONE, 3), 3);
        C.due("missing a", m.add(0, NONE, 1, 2), 5);
        C.due("missing b", m.add(0, 1, NONE, 1), 6);
        C.due("of another table", m.add(1, 15, 15, 9), 9);
        C.due("missing in 0", m.table(0, 2), 5);
        C.due("missing in 1", m.table(0, 3), 4);
        C.about("NONE: no such TABLE, VALUES (STATUS 0), n (1 .. 99; 1), more than 999 (3).");
        SafeBuckets x = Check.desk("tv2;tv16");
        int no = 0;
        for (int table : Check.outside(0, 1)) {
            C.due("table " + table, x.add(table, 0, 0, 1), NONE);
            statusIs(x, ++no, 0, 0, 0, 0);
        }
        for (int v : Check.outside(-1, 1)) {
            C.due("a " + v, x.add(0, v, 0, 1), NONE);
            C.due("b " + v, x.add(0, 0, v, 1), NONE);
            no += 2;
            statusIs(x, no, 0, 0, 0, 0);
        }
        int out = 0;
        for (int n : Check.outside(1, 99)) {
            C.due("n " + n, x.add(0, 0, 0, n), NONE);
            statusIs(x, no, ++out, 0, 0, 0);
        }
        C.due("nothing came", x.most(4), 0);
        C.due("1", x.add(1, 15, -1, 1), 1);
        C.due("99", x.add(1, -1, 15, 99), 100);
        for (int i = 2; i <= 9; i++) {
            x.add(1, -1, -1, 99);
        }
        C.due("892", x.table(1, 1), 892);
        C.due("991", x.add(1, 0, 0, 99), 991);
        C.due("1000", x.add(1, 0, 0, 9), NONE);
        C.due("1090", x.add(1, 0, 0, 99), NONE);
        statusIs(x, no, out, 0, 2, 0);
        C.due("999", x.add(1, 0, 0, 8), 999);
        C.due("1000", x.add(1, -1, -1, 1), NONE);
        statusIs(x, no, out, 0, 3, 0);
        C.due("the log has what was not refused", x.count(3), 12);
    }

    private static void dropAnswers() {
        C.about("NONE: no such TABLE, VALUES (STATUS 0), n (1 .. 99; 1), there are not so many (3).");
        SafeBuckets x = Check.desk("tv2;tv16;ra0b0n40;rt1a15n40;rt1a15n40;rt1a15n21;rt1b15n2");
        int no = 0;
        for (int table : Check.outside(0, 1)) {
            C.due("table " + table, x.drop(table, 0, 0, 1), NONE);
            statusIs(x, ++no, 0, 0, 0, 0);
        }
        for (int v : Check.outside(-1, 1)) {
            C.due("a " + v, x.drop(0, v, 0, 1), NONE);
            C.due("b " + v, x.drop(0, 0, v, 1), NONE);
            no += 2;
            statusIs(x, no, 0, 0, 0, 0);
        }
        int out = 0;
        for (int n : Check.outside(1, 99)) {
            C.due("n " + n, x.drop(1, 15, -1, n), NONE);
            statusIs(x, no, ++out, 0, 0, 0);
        }
        C.due("99 of 101", x.drop(1, 15, -1, 99), 4);
        C.due("3 of 2", x.drop(1, 15, -1, 3), NONE);
        C.due("none of these", x.drop(1, 15, 15, 1), NONE);
        statusIs(x, no, out, 0, 2, 0);
        C.due("2 of 2", x.drop(1, 15, -1, 2), 2);
        C.due("1 of 0", x.drop(1, 15, -1, 1), NONE);
        statusIs(x, no, out, 0, 3, 0);
        C.due("to none", x.drop(1, -1, 15, 2), 0);
        C.due("41 of 40", x.drop(0, 0, 0, 41), NONE);
        C.due("40 of 40", x.drop(0, 0, 0, 40), 0);
        C.due("the log has what was not refused", x.count(3), 4);
    }

    private static void moveAnswers() {
        C.about("NONE: no such TABLE, VALUES (STATUS 0), it is the same (2), there is none (3).");
        SafeBuckets x = Check.desk("tv2;tv16;ra0b0n2");
        int no = 0;
        for (int table : Check.outside(0, 1)) {
            C.due("table " + table, x.move(table, 0, 0, 1, 1), NONE);
            statusIs(x, ++no, 0, 0, 0, 0);
        }
        for (int v : Check.outside(-1, 1)) {
            C.due("a " + v, x.move(0, v, 0, 1, 1), NONE);
            C.due("b " + v, x.move(0, 0, v, 1, 1), NONE);
            C.due("c " + v, x.move(0, 0, 0, v, 1), NONE);
            C.due("d " + v, x.move(0, 0, 0, 1, v), NONE);
            no += 4;
            statusIs(x, no, 0, 0, 0, 0);
        }
        C.due("the same", x.move(0, 0, 0, 0, 0), NONE);
        C.due("the same missing", x.move(0, -1, -1, -1, -1), NONE);
        statusIs(x, no, 0, 2, 0, 0);
        C.due("none", x.move(0, 1, 0, 0, 0), NONE);
        C.due("none", x.move(1, 15, 15, 15, 14), NONE);
        statusIs(x, no, 0, 2, 2, 0);
        C.due("another b alone", x.move(0, 0, 0, 0, 1), 1);
        C.due("another a alone", x.move(0, 0, 0, 1, 0), 1);
        C.due("the last has gone", x.move(0, 0, 0, 1, 1), NONE);
        statusIs(x, no, 0, 2, 3, 0);
        C.due("rows", x.table(0, 1), 2);
        C.due("the log has what was not refused", x.count(3), 2);
    }

    private static void buildAnswers() {
        C.about("NONE: no such TABLE, COLUMN (STATUS 0), it has not DRIFTED (2).");
        SafeBuckets x = Check.desk("sb8d99;tv2;tv16");
        int no = 0;
        for (int out : Check.outside(0, 1)) {
            C.due("table " + out, x.build(out, 0), NONE);
            C.due("column " + out, x.build(1, out), NONE);
            no += 2;
            statusIs(x, no, 0, 0, 0, 0);
        }
        C.due("as told", x.build(1, 1), NONE);
        statusIs(x, no, 0, 1, 0, 0);
        x.add(1, -1, 15, 1);
        C.due("the other column", x.build(1, 0), NONE);
        C.due("drifted by 1", x.build(1, 1), 8);
        C.due("again", x.build(1, 1), NONE);
        statusIs(x, no, 0, 3, 0, 0);
        x.add(0, 1, -1, 1);
        x.drop(0, 1, -1, 1);
        C.due("drifted by 2, back to what it was", x.build(0, 0), 2);
        x.undo();
        C.due("undone, it has drifted again", x.build(0, 0), 2);
        C.due("the log has what was not refused", x.count(3), 5);
    }

    private static void budgetAnswers() {
        C.about("NONE: no BOOK (STATUS 0), out of bounds (1), it is so (2).");
        SafeBuckets none = new SafeBuckets();
        for (int n : new int[] {-1, 0, 1, 999, 1000}) {
            C.due("no book, " + n, none.budget(n), NONE);
        }
        statusIs(none, 5, 0, 0, 0, 0);
        SafeBuckets x = Check.desk("sq999;t");
        int out = 0;
        for (int n : Check.outside(1, 999)) {
            C.due("budget " + n, x.budget(n), NONE);
            statusIs(x, 0, ++out, 0, 0, 0);
        }
        C.due("so", x.budget(999), NONE);
        statusIs(x, 0, out, 1, 0, 0);
        C.due("1", x.budget(1), 999);
        C.due("so", x.budget(1), NONE);
        C.due("999", x.budget(999), 1);
        statusIs(x, 0, out, 2, 0, 0);
        C.due("two acts", x.count(4), 2);
    }

    // ---- promises 22 to 24

    private static void statusAnswers() {
        C.about("STATUS. NONE: no such what.");
        SafeBuckets x = new SafeBuckets();
        statusIs(x, 0, 0, 0, 0, 0);
        for (int what : Check.outside(0, 4)) {
            C.due("what " + what, x.status(what), NONE);
        }
        for (int i = 1; i <= 300; i++) {
            x.budget(1);
        }
        statusIs(x, 300, 0, 0, 0, 0);
    }

    private static void undoAnswers() {
        C.about("The latest ACT is UNDONE: how many still can be. NONE: none.");
        C.due("no book", new SafeBuckets().undo(), NONE);
        SafeBuckets x = Check.desk("sb1d2;tv3;ra0b0n3");
        C.due("no act", x.undo(), NONE);
        x.add(0, 9, 9, 9);
        C.due("a refused one is none", x.undo(), NONE);
        x.add(0, 1, 1, 3);
        C.due("built by it", x.column(0, 0, 1), 0);
        C.due("one", x.undo(), 0);
        bucketIs(x, 0, 3, 3);
        C.due("its drift too", x.column(0, 0, 1), 0);
        x.add(0, 1, 1, 2);
        x.drop(0, 1, 1, 1);
        C.due("built by that", x.bucket(0, 0, 0, 3), 3);
        C.due("undone", x.undo(), 1);
        bucketIs(x, 0, 5, 5);
        C.due("drift as it was", x.column(0, 1, 1), 2);
        C.due("undone", x.undo(), 0);
        C.due("none", x.undo(), NONE);
        C.due("rows", x.table(0, 1), 3);
        C.due("status is as it was", x.status(0), 1);
    }

    private static void logAnswers() {
        C.about("LOG, the latest (i 0), the one ahead of it (1) ..: 0 sort, 1 TABLE, 2 number. HIDDEN: no such ones.");
        SafeBuckets x = new SafeBuckets();
        C.due("no book", x.log(0, 0), HIDDEN);
        Check.tell(x, "t;t", 0);
        C.due("no act", x.log(0, 0), HIDDEN);
        x.add(1, 2, 3, 4);
        x.budget(5);
        for (int i : Check.outside(0, 1)) {
            C.due("i " + i, x.log(i, 0), HIDDEN);
        }
        for (int what : Check.outside(0, 2)) {
            C.due("what " + what, x.log(0, what), HIDDEN);
        }
        C.due("the latest", x.log(0, 0), 4);
        C.due("no table", x.log(0, 1), NONE);
        C.due("the one ahead", x.log(1, 1), 1);
        x.undo();
        C.due("undone", x.log(0, 0), 0);
        C.due("one less", x.log(1, 0), HIDDEN);
        // Full, one more, that undone: the log is as it was.
        SafeBuckets y = Check.desk("t");
        for (int i = 1; i <= 61; i++) {
            y.budget(i);
        }
        C.due("the first has fallen out", y.log(59, 2), 2);
        y.undo();
        C.due("60 as ahead of the act", y.count(3), 60);
        C.due("and the first is there", y.log(59, 2), 1);
        y.undo();
        C.due("59", y.count(3), 59);
        C.due("no 60th", y.log(59, 2), HIDDEN);
    }
}
