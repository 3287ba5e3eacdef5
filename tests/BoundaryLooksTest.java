/** Boundary cases of looks and of bounds by buckets (promises 25 to 33, terms 3), sentence by sentence. */
public final class BoundaryLooksTest {
    private static final int NONE = SafeBuckets.NONE;
    private static final int HIDDEN = SafeBuckets.HIDDEN;
    private static final Check C = new Check();

    private BoundaryLooksTest() {
    }

    public static void main(String[] args) {
        stops();
        traces();
        whereSteps();
        joinSteps();
        chainSteps();
        unitBounds();
        termBounds();
        whereBounds();
        joinBounds();
        chainBounds();
        eightBuckets();
        neverLess();
        narrows();
        odds();
        shares();
        mosts();
        whereAnswers();
        joinAnswers();
        chainAnswers();
        traceAnswers();
        narrowAnswers();
        oddsAnswers();
        unitAnswers();
        C.finish("BoundaryLooksTest");
    }

    private static void traceIs(SafeBuckets x, int... want) {
        C.due("trace's length", x.count(5), want.length);
        for (int i = 0; i < want.length; i++) {
            C.due("trace " + i, x.trace(i), want[i]);
        }
        C.due("no more", x.trace(want.length), NONE);
    }

    /** A table of 16 values with a row for each two, MISSING too. */
    private static SafeBuckets everyPair(String book, int table) {
        SafeBuckets x = Check.desk(book, "a?|a<99", "a?&b?");
        for (int a = -1; a < 16; a++) {
            for (int b = -1; b < 16; b++) {
                x.add(table, a, b, 1);
            }
        }
        return x;
    }

    // ---- looks

    private static void stops() {
        C.about("is a STEP one more than BUDGET, it is STOPPED there (answers NONE, STATUS)");
        SafeBuckets x = Check.desk("sq3;tv4;tv4;tv4;ra0b0;ra1b1;ra2b2;rt1a0b0;rt1a1b1;rt1a2b2", "a?");
        C.due("3 of 3", x.where(0, 0, 0), 0);
        C.due("3 of 3", x.join(0, 0, 1, 0, 0), 3);
        C.due("3 of 3", x.chain(0), 0);
        C.due("none stopped", x.status(4), 0);
        x.budget(2);
        C.due("3 of 2", x.where(0, 0, 0), NONE);
        C.due("status", x.status(4), 1);
        C.due("3 of 2", x.join(0, 0, 1, 0, 0), NONE);
        C.due("status", x.status(4), 2);
        C.due("3 of 2", x.chain(0), NONE);
        C.due("status", x.status(4), 3);
        C.due("none of 2", x.where(2, 0, 0), 0);
        x.budget(1);
        C.due("none of 1", x.join(2, 0, 0, 0, 0), 0);
        x.drop(0, 2, 2, 1);
        C.due("2 of 1", x.where(0, 0, 0), NONE);
        x.drop(0, 1, 1, 1);
        C.due("1 of 1", x.where(0, 0, 0), 0);
        C.due("status", x.status(4), 4);
        SafeBuckets all = everyPair("tv16", 0);
        all.budget(289);
        C.due("289 of 289", all.where(0, 0, 0), 289);
        all.budget(288);
        C.due("289 of 288", all.where(0, 0, 0), NONE);
        all.budget(16);
        C.due("16 of 16", all.join(0, 0, 0, 1, 0), 17 * 17 * 16);
        all.budget(15);
        C.due("16 of 15", all.join(0, 0, 0, 1, 0), NONE);
        SafeBuckets middle = everyPair("tv2;tv16;tv2;rb1;rt2a1", 1);
        middle.budget(256);
        C.due("256 of 256", middle.chain(0), 1);
        middle.budget(255);
        C.due("256 of 255", middle.chain(0), NONE);
    }

    private static void traces() {
        C.about("TRACE: of the latest LOOK (none at first)");
        SafeBuckets x = Check.desk("t;t;t", "a?");
        traceIs(x);
        x.where(0, 0, 1);
        x.where(0, 0, 2);
        x.where(0, 0, 3);
        x.join(0, 0, 1, 0, 1);
        x.join(0, 0, 1, 0, 2);
        x.join(0, 0, 1, 0, 3);
        x.chain(1);
        x.narrow(0, 0, 0);
        x.odds(0, 0, 1, 0);
        traceIs(x);
        x.chain(0);
        traceIs(x, 0, 1, 2, 12, 11, 10);
        x.where(2, 0, 0);
        traceIs(x, 2, 12);
        x.where(2, 0, 1);
        x.chain(1);
        traceIs(x, 2, 12);
        C.about("gives them back the other way round, whatever comes");
        SafeBuckets y = Check.desk("sq1;tv2;tv2;tv2;ra0b0;ra1b1;rt1a0b0;rt1a1b1;rt2a0b0;rt2a1b1", "a?");
        C.due("stopped", y.where(1, 0, 0), NONE);
        traceIs(y, 1, 11);
        C.due("stopped", y.join(2, 0, 1, 1, 0), NONE);
        traceIs(y, 2, 1, 11, 12);
        C.due("stopped", y.chain(0), NONE);
        traceIs(y, 0, 1, 2, 12, 11, 10);
        C.about("the TABLE is taken twice, if it is the same");
        C.due("stopped", y.join(2, 0, 2, 1, 0), NONE);
        traceIs(y, 2, 2, 12, 12);
        y.budget(2);
        C.due("not stopped", y.join(0, 1, 0, 1, 0), 2);
        traceIs(y, 0, 0, 10, 10);
    }

    private static void whereSteps() {
        C.about("for each two of a VALUE or MISSING and a VALUE or MISSING that have ROWS a STEP");
        SafeBuckets x = Check.desk("sq4;tv4;ra0b0n40;ra0n9;rb0n9;rn9", "a=0", "b>8");
        C.due("4 of 4", x.where(0, 0, 0), 49);
        C.due("for all of them, not only where it holds", x.where(0, 1, 0), 0);
        x.budget(3);
        C.due("4 of 3", x.where(0, 1, 0), NONE);
        x.drop(0, 0, 0, 40);
        C.due("3 of 3", x.where(0, 0, 0), 9);
        C.about("(= < > never for MISSING)");
        SafeBuckets y = Check.desk("tv2;rn5;ra0b0n3;ra1n2", "a=0|a<99|a>0", "a<1", "b<99|b>0|b=0", "a?|b?");
        C.due("all values", y.where(0, 0, 0), 5);
        C.due("below 1", y.where(0, 1, 0), 3);
        C.due("of column 1", y.where(0, 2, 0), 3);
        C.due("missing", y.where(0, 3, 0), 7);
        SafeBuckets z = Check.desk("tv16;ra0;ra15n2;ra14n4", "a>14", "a>15", "a<15", "a<0");
        C.due("above 14", z.where(0, 0, 0), 2);
        C.due("above 15", z.where(0, 1, 0), 0);
        C.due("below 15", z.where(0, 2, 0), 5);
        C.due("below 0", z.where(0, 3, 0), 0);
    }

    private static void joinSteps() {
        C.about("for each VALUE that has a COUNT in the first a STEP");
        SafeBuckets x = Check.desk("sq2;tv2;tv16;ra0n3;ra1n2;rn9;rt1a1n5;rt1a9n5;rt1a15n5;rt1b1n4");
        C.due("2 of 2", x.join(0, 0, 1, 0, 0), 10);
        C.due("the first has 3", x.join(1, 0, 0, 0, 0), NONE);
        C.due("1 of 2", x.join(1, 1, 1, 0, 0), 20);
        x.budget(1);
        C.due("values, not rows", x.join(1, 1, 1, 1, 0), 16);
        C.due("none of 1", x.join(0, 1, 1, 0, 0), 0);
        C.due("2 of 1", x.join(0, 0, 0, 1, 0), NONE);
        x.budget(3);
        C.due("a value that the other can't have is a step", x.join(1, 0, 0, 0, 0), 10);
        C.due("999 by 999", both999().join(0, 0, 1, 0, 0), 998001);
    }

    private static SafeBuckets both999() {
        SafeBuckets x = Check.desk("tv2;tv2;tv2");
        for (int table = 0; table < 3; table++) {
            for (int i = 0; i < 10; i++) {
                x.add(table, 1, 1, 99);
            }
            x.add(table, 1, 1, 9);
        }
        return x;
    }

    private static void chainSteps() {
        C.about("for each two (VALUES both) of TABLE 1 that have ROWS a STEP");
        SafeBuckets x = Check.desk("sq2;tv2;tv16;tv2;rb0n2;rb1n3;rt1a0b1n5;rt1a9b1n4;rt1a1n8;rt1b0n8;rt1n8;rt2a1n7");
        C.due("2 of 2", x.chain(0), 70);
        x.budget(1);
        C.due("2 of 1", x.chain(0), NONE);
        x.drop(1, 9, 1, 4);
        C.due("1 of 1", x.chain(0), 70);
        x.drop(1, 0, 1, 5);
        C.due("none", x.chain(0), 0);
        C.due("999 by 999 by 999", both999().chain(0), 997002999);
    }

    // ---- bounds of wheres

    private static void bounds(SafeBuckets x, int where, int lower, int upper, int estimate) {
        C.due("lower of " + where, x.where(0, where, 1), lower);
        C.due("upper of " + where, x.where(0, where, 2), upper);
        C.due("estimate of " + where, x.where(0, where, 3), estimate);
    }

    private static void unitBounds() {
        String one = "sb1;tv4;ra0n6;ra1n3;ra2n1;rn5";
        C.about("LOWER: all W: TOTAL; else TOTAL less GREATEST times W less w, 0 at least");
        SafeBuckets x = Check.desk(one, "a<4", "a<3", "a<2", "a<1");
        C.due("4 of 4", x.where(0, 0, 1), 10);
        C.due("3 of 4: 10 less 6", x.where(0, 1, 1), 4);
        C.due("2 of 4: 10 less 12", x.where(0, 2, 1), 0);
        C.due("1 of 4: 10 less 18", x.where(0, 3, 1), 0);
        C.due("12 less 12", Check.desk("sb1;tv4;ra0n6;ra1n6", "a<2").where(0, 0, 1), 0);
        C.due("13 less 12", Check.desk("sb1;tv4;ra0n6;ra1n6;ra2n1", "a<2").where(0, 0, 1), 1);
        C.about("UPPER: GREATEST times w, TOTAL at most (w 0: both 0)");
        C.due("4 of 4", x.where(0, 0, 2), 10);
        C.due("2 of 4: 12, but 10", x.where(0, 2, 2), 10);
        C.due("1 of 4: 6", x.where(0, 3, 2), 6);
        SafeBuckets none = Check.desk(one, "a<0", "a>3", "a=4", "a=99");
        for (int where = 0; where < 4; where++) {
            bounds(none, where, 0, 0, 0);
        }
        C.about("ESTIMATE: TOTAL times w by W, cut; all BUCKETS added up");
        C.due("10 by 4", x.where(0, 3, 3), 2);
        C.due("20 by 4", x.where(0, 2, 3), 5);
        C.due("30 by 4", x.where(0, 1, 3), 7);
        C.due("40 by 4", x.where(0, 0, 3), 10);
        // 0 .. 1 with 1, 2 .. 3 with 11: each cut by itself.
        SafeBuckets two = Check.desk("sb2;tv4;ra0n1;ra2n5;ra3n6", "a<3", "a>0", "a>1", "a>0&a<3");
        bounds(two, 0, 1 + 5, 1 + 6, 1 + 5);
        bounds(two, 1, 0 + 11, 1 + 11, 0 + 11);
        bounds(two, 2, 11, 11, 11);
        bounds(two, 3, 6 + 11 - 12, 7, 6);
        C.about("MISSING: how many there are, all three.");
        SafeBuckets missing = Check.desk(one, "a?", "b?");
        bounds(missing, 0, 5, 5, 5);
        bounds(missing, 1, 15, 15, 15);
        missing.drop(0, -1, -1, 5);
        bounds(missing, 0, 0, 0, 0);
    }

    /** Ten rows, each value a bucket of its own: what is of one column is known. */
    private static final String KNOWN = "sb8;tv4;ra0b0n5;ra0b1n2;ra1b1n3";

    private static void termBounds() {
        C.about("Of a TERM: LOWER: those of its UNITS added up less as many times all ROWS as it has UNITS less 1, 0 at least");
        SafeBuckets x = Check.desk(KNOWN, "a=0&b=0", "b=0&b=1", "a=1&b=0", "a=0&b<2&b=0&a<9");
        C.due("7 and 5 less 10", x.where(0, 0, 1), 2);
        C.due("5 and 5 less 10", x.where(0, 1, 1), 0);
        C.due("3 and 5 less 10", x.where(0, 2, 1), 0);
        C.due("7, 10, 5, 10 less 30", x.where(0, 3, 1), 2);
        C.about("UPPER: the least of them; ESTIMATE: likewise.");
        C.due("7 and 5", x.where(0, 0, 2), 5);
        C.due("7 and 5", x.where(0, 0, 3), 5);
        C.due("3 and 5", x.where(0, 2, 2), 3);
        C.due("3 and 5", x.where(0, 2, 3), 3);
        C.due("of four", x.where(0, 3, 2), 5);
        C.due("of four", x.where(0, 3, 3), 5);
        SafeBuckets y = Check.desk(KNOWN, "a=0&b=3", "a=0&b=0&a=1&b=1&a?&b?");
        bounds(y, 0, 0, 0, 0);
        bounds(y, 1, 0, 0, 0);
    }

    private static void whereBounds() {
        C.about("Of a WHERE: LOWER: the greatest of its TERMS; UPPER: added up, all ROWS at most; ESTIMATE: likewise.");
        SafeBuckets x = Check.desk(KNOWN, "a=0|a=1", "b=0|a=0", "a=0&b=0|a=1", "a=1|a=1|a=1");
        bounds(x, 0, 7, 10, 10);
        bounds(x, 1, 7, 10, 10);
        bounds(x, 2, 3, 8, 8);
        bounds(x, 3, 3, 9, 9);
        SafeBuckets y = Check.desk(KNOWN, "a=3|b=3", "a<9|a<9|a<9|b<9|b<9|b<9", "a=1&b=0|b=1&a=1", "b=0");
        bounds(y, 0, 0, 0, 0);
        bounds(y, 1, 10, 10, 10);
        bounds(y, 2, 0, 6, 6);
        bounds(y, 3, 5, 5, 5);
        SafeBuckets empty = Check.desk("t", "a<9|b<9&a?");
        bounds(empty, 0, 0, 0, 0);
    }

    // ---- bounds of joins and of the chain

    private static void joinBounds() {
        C.about("that have w VALUES (1 and more) in common");
        // 0 .. 2 and 3; 0 and 1 .. 3.
        SafeBuckets parts = Check.desk("sb2;tv4;tv4;ra0n5;ra1n5;ra2n5;rt1a1n4;rt1a2n4;rt1a3n4");
        C.due("upper of 2 in common", parts.join(0, 0, 1, 0, 1), 40);
        C.due("estimate of 2 in common", parts.join(0, 0, 1, 0, 3), 40);
        SafeBuckets apart = Check.desk("sb8;tv2;tv16;ra0n9;ra1n9;rt1a2n9;rt1a15n9");
        C.due("upper of none", apart.join(0, 0, 1, 0, 1), 0);
        C.due("estimate of none", apart.join(0, 0, 1, 0, 3), 0);
        SafeBuckets touch = Check.desk("sb2;tv2;tv3;ra1n9;rt1a1n2;rt1a2n2");
        C.due("upper of 1", touch.join(0, 0, 1, 0, 1), 18);
        C.due("estimate of 1", touch.join(0, 0, 1, 0, 3), 18);
        C.about("UPPER: the least of TOTAL of the one times GREATEST of the other, the other way round, and w times both GREATESTS");
        SafeBuckets x = Check.desk("sb1;tv2;tv2;ra0n5;ra1n1;rt1a0n3;rt1a1n3");
        C.due("6 by 3, not 6 by 5, not 2 by 5 by 3", x.join(0, 0, 1, 0, 1), 18);
        C.due("the other way round", x.join(1, 0, 0, 0, 1), 18);
        C.due("2 by 5 by 4, not 15 by 4, not 12 by 5", parts.join(0, 0, 1, 0, 1), 40);
        C.due("of the most there can be", both999().join(0, 0, 1, 0, 1), 998001);
        C.due("of none", Check.desk("t;t").join(0, 0, 1, 0, 1), 0);
        C.about("ESTIMATE: w times both TOTALS by both numbers of VALUES multiplied, cut; added up");
        SafeBuckets y = Check.desk("sb2;tv4;tv4;ra0n1;ra2n5;ra3n6;rt1a0n1;rt1a2n6;rt1a3n5");
        C.due("1/2 and 60 1/2", y.join(0, 0, 1, 0, 3), 60);
        SafeBuckets z = Check.desk("sb1;tv3;tv2;ra0;ra1;rt1a0n3;rt1a1n3");
        C.due("2 by 2 by 6 by 6", z.join(0, 0, 1, 0, 3), 4);
        C.due("2 by 2 by 2 by 9", z.join(0, 0, 0, 0, 3), 1);
        SafeBuckets single = Check.desk("sb2;tv2;tv2;ra0n3;ra1n5;rt1a0n2;rt1a1n7");
        C.due("single values", single.join(0, 0, 1, 0, 3), 6 + 35);
        C.about("both COLUMNS' COUNTS sorted (a LOOK is not needed), the greatest first, multiplied one by one, added up");
        SafeBuckets d = Check.desk("sq1;tv2;tv3;ra0n3;ra1n5;rt1a0n2;rt1a2n7;rt1b1n4");
        C.due("5 by 7, 3 by 2", d.join(0, 0, 1, 0, 2), 41);
        C.due("the other way round", d.join(1, 0, 0, 0, 2), 41);
        C.due("a single one", d.join(0, 0, 1, 1, 2), 20);
        C.due("with itself", d.join(0, 0, 0, 0, 2), 34);
        C.due("with none", d.join(0, 0, 0, 1, 2), 0);
        C.due("of all sixteen", everyPair("tv16", 0).join(0, 0, 0, 1, 2), 16 * 17 * 17);
        C.due("no look", d.count(5), 0);
        C.due("no stop", d.status(4), 0);
    }

    private static void chainBounds() {
        C.about("Of the CHAIN: UPPER: the less of");
        String head = "sb8;tv2;tv2;tv2;rb0n2;rb1n3;rt1a0b0n5;rt2a0n4";
        C.due("10 by 4, not 20 by 3", Check.desk(head).chain(1), 40);
        C.due("20 by 3, not 10 by 9", Check.desk(head + ";rt2a1n9").chain(1), 60);
        C.due("none", Check.desk("t;t;t").chain(1), 0);
        C.due("the most there can be", both999().chain(1), 997002999);
    }

    /** With as many buckets as there can be, each of a single value, all is known. */
    private static void eightBuckets() {
        C.about("By BUCKETS as they are kept (no LOOK)");
        StringBuilder book = new StringBuilder("sb8q1;t;t;t");
        for (int v = 0; v < 8; v++) {
            book.append(";ra").append(v).append('b').append(v).append('n').append(v + 1);
            book.append(";rt1a").append(v).append('b').append(v);
        }
        SafeBuckets x = Check.desk(book.append(";rt2a7n9").toString(), "a>5", "a<1|b>6", "a=7&b=7");
        bounds(x, 0, 15, 15, 15);
        bounds(x, 1, 8, 9, 9);
        bounds(x, 2, 0, 8, 8);
        C.due("upper", x.join(0, 1, 1, 0, 1), 36);
        C.due("estimate", x.join(0, 1, 1, 0, 3), 36);
        C.due("estimate of the last value alone", x.join(0, 1, 2, 0, 3), 72);
        C.due("the last value alone", x.join(1, 1, 2, 0, 1), 9);
        C.due("36 by 9, not 9 by 8", x.chain(1), 72);
        C.due("the greatest total", x.most(2), 9);
        C.due("no look", x.count(5), 0);
        C.due("no stop", x.status(4), 0);
        SafeBuckets kept = Check.desk("sb1d99;tv2;tv2;ra0n4;rt1a0n2;rt1a1n2", "a=1");
        kept.add(0, 1, -1, 4);
        bounds(kept, 0, 0, 8, 4);
        C.due("as kept: 8 by 2, not 4 by 8", kept.join(0, 0, 1, 0, 1), 16);
        kept.drop(0, 0, -1, 3);
        bounds(kept, 0, 0, 5, 2);
        kept.build(0, 0);
        bounds(kept, 0, 1, 4, 2);
    }

    /** The bounds hold what looking at all finds, as rows come and go. */
    private static void neverLess() {
        C.about("from where to where by the buckets alone, never less than it is");
        for (int seed = 1; seed <= 60; seed++) {
            SafeBuckets x = Check.desk("sb" + (seed % 8 + 1) + "d" + seed + ";tv6;tv5;tv7;ra1b1n9;rt1a2b2n9;rt2a3b3n9",
                    "a<3&b>1|a?", "a=2|b=2", "a>1&a<4", "a<2&b?|b=0&a=1|b<1");
            for (int round = 0; round < 4; round++) {
                x.years(20, seed * 1000L + round);
                for (int w = 0; w < 4; w++) {
                    int truth = x.where(0, w, 0);
                    C.due("lower", x.where(0, w, 1) <= truth, true);
                    C.due("upper", x.where(0, w, 2) >= truth, true);
                }
                long joined = x.join(0, 1, 1, 0, 0);
                C.due("join's upper", x.join(0, 1, 1, 0, 1) >= joined, true);
                C.due("by degrees", x.join(0, 1, 1, 0, 2) >= joined, true);
                C.due("chain's upper", x.chain(1) >= x.chain(0), true);
            }
        }
    }

    // ---- narrow, odds, shares, most

    private static void narrowIs(SafeBuckets x, int where, int column, int less) {
        C.due("narrow " + where, x.narrow(0, where, 0), column);
        C.due("narrow " + where + " by", x.narrow(0, where, 1), less);
    }

    private static void narrows() {
        C.about("by which COLUMN, were it BUILT now, UPPER less LOWER would be least (the lower of like ones; NONE: by neither less than now); by how much less");
        SafeBuckets x = Check.desk("sb1d99;tv2;ra0b0n4", "a=1", "b=1", "a=1&b=1", "a?|b?");
        for (int where = 0; where < 4; where++) {
            narrowIs(x, where, NONE, 0);
        }
        x.add(0, 1, 1, 4);
        narrowIs(x, 0, 0, 8);
        narrowIs(x, 1, 1, 8);
        narrowIs(x, 2, 0, 4);
        narrowIs(x, 3, NONE, 0);
        x.add(0, 1, -1, 2);
        // Column 0 has 4 6 and is kept with 10; column 1 has 4 4 and is kept with 8.
        narrowIs(x, 2, 1, 4);
        x.undo();
        x.add(0, -1, 1, 2);
        narrowIs(x, 2, 0, 4);
        C.due("it is not built", x.column(0, 0, 1), 4);
        x.build(0, 0);
        narrowIs(x, 0, NONE, 0);
        narrowIs(x, 1, 1, 10 - 2);
        // Column 0 is as built with 4 0; column 1 has 4 4 and is kept with 8.
        SafeBuckets y = Check.desk("sb1d99;tv2;ra0n4;rb0n4", "a=1|b=1");
        y.add(0, -1, 1, 4);
        narrowIs(y, 0, 1, 12 - 4);
        // 0 | 1 .. 3 as kept knows that 0 has none; built it would be 0 1 | 2 3.
        SafeBuckets worse = Check.desk("sb2d99;tv4", "a=0|b=0");
        worse.add(0, 1, 1, 5);
        narrowIs(worse, 0, NONE, 0);
    }

    private static void oddsAre(SafeBuckets x, int where, int k, long upper, long lower) {
        C.due("odds upper " + where + ", " + k, x.odds(0, where, k, 0), upper);
        C.due("odds lower " + where + ", " + k, x.odds(0, where, k, 1), lower);
    }

    private static void odds() {
        C.about("ODDS, k (1 .. 4): that k ROWS drawn (none twice) are all such that a WHERE holds");
        SafeBuckets d = Check.desk("tv2;ra0n5;ra1n2", "a=0");
        oddsAre(d, 0, 1, 5, 7);
        oddsAre(d, 0, 2, 10, 21);
        oddsAre(d, 0, 3, 2, 7);
        oddsAre(d, 0, 4, 1, 7);
        C.due("0", d.odds(0, 0, 0, 0), NONE);
        C.due("5", d.odds(0, 0, 5, 0), NONE);
        C.about("as a fraction in lowest terms (0 by 1; fewer than k ROWS: none)");
        SafeBuckets x = Check.desk("sq1;tv2;ra0n3;ra1n3", "a=0", "a?", "a<9");
        oddsAre(x, 0, 1, 1, 2);
        oddsAre(x, 0, 2, 1, 5);
        oddsAre(x, 0, 3, 1, 20);
        oddsAre(x, 0, 4, 0, 1);
        oddsAre(x, 1, 1, 0, 1);
        oddsAre(x, 1, 4, 0, 1);
        oddsAre(x, 2, 4, 1, 1);
        C.due("no look", x.count(5), 0);
        C.due("no stop", x.status(4), 0);
        SafeBuckets few = Check.desk("tv2;ra0n3", "a=0", "a=1");
        oddsAre(few, 0, 3, 1, 1);
        oddsAre(few, 1, 3, 0, 1);
        oddsAre(few, 0, 4, NONE, NONE);
        oddsAre(few, 1, 4, NONE, NONE);
        oddsAre(Check.desk("t", "a=0"), 0, 1, NONE, NONE);
        SafeBuckets many = both999();
        Check.tell(many, "a=1", 1);
        many.drop(0, 1, 1, 1);
        many.add(0, 0, 0, 1);
        // 998 997 996 995 by 999 998 997 996.
        oddsAre(many, 0, 4, 995, 999);
        oddsAre(many, 0, 1, 998, 999);
    }

    private static void shares() {
        C.about("SHARES of c (0 .. 999) by ROWS: for a TABLE c times its by those of all, cut (none: 0).");
        SafeBuckets x = Check.desk("t;t;t;r;rt1n2");
        C.due("0", x.shares(1, 0), 0);
        C.due("1 by 3", x.shares(0, 1), 0);
        C.due("2 by 3", x.shares(0, 2), 0);
        C.due("3 by 3", x.shares(0, 3), 1);
        C.due("999", x.shares(1, 999), 666);
        C.due("a table without", x.shares(2, 999), 0);
        C.due("no rows", Check.desk("t;t").shares(1, 999), 0);
        C.due("all rows", Check.desk("t;t;rt1").shares(1, 999), 999);
        C.due("as many as there can be", both999().shares(2, 999), 333);
        C.due("the most for one", full999().shares(0, 999), 999);
        C.about("SHARES. NONE: no such TABLE, out of bounds.");
        C.due("no book", new SafeBuckets().shares(0, 1), NONE);
        for (int table : Check.outside(0, 2)) {
            C.due("table " + table, x.shares(table, 1), NONE);
        }
        for (int c : Check.outside(0, 999)) {
            C.due("c " + c, x.shares(0, c), NONE);
            C.due("c " + c + " of no rows", Check.desk("t").shares(0, c), NONE);
        }
    }

    private static SafeBuckets full999() {
        SafeBuckets x = both999();
        Check.tell(x, "t;t", 0);
        for (int i = 0; i < 10; i++) {
            x.add(0, 7, 7, 99);
        }
        x.add(0, 7, 7, 9);
        return x;
    }

    private static void mostAre(SafeBuckets x, int... want) {
        for (int what = 0; what < 6; what++) {
            C.due("most " + what, x.most(what), want[what]);
        }
    }

    private static void mosts() {
        C.about("(of several the lowest, all)");
        SafeBuckets x = Check.desk("sb8d99;tv3;tv5;tv5");
        mostAre(x, 0, 0, 0, 0, 0, 0);
        x.add(2, 4, 2, 3);
        mostAre(x, 2, 20, 3, 3, 3, 2);
        x.add(1, 3, 4, 3);
        mostAre(x, 1, 10, 3, 3, 6, 2);
        x.add(0, -1, 1, 3);
        mostAre(x, 0, 1, 3, 3, 9, 1);
        x.add(2, -1, -1, 4);
        mostAre(x, 2, 1, 3, 4, 13, 1);
        x.add(2, -1, 4, 4);
        mostAre(x, 2, 21, 4, 4, 17, 4);
        SafeBuckets first = Check.desk("sb1d99;tv4;tv4;tv4;rt1a1n9;rt1b2n9;rt2a1n8");
        mostAre(first, 1, 0, 9, 9, 26, 1);
        first.add(0, 3, -1, 20);
        mostAre(first, 0, 0, 20, 20, 46, 3);
        first.add(1, -1, 0, 19);
        mostAre(first, 1, 0, 28, 20, 65, 3);
        first.add(0, -1, 2, 10);
        mostAre(first, 1, 0, 28, 20, 75, 3);
        first.add(2, 2, 2, 1);
        mostAre(first, 1, 0, 28, 20, 76, 3);
        C.due("the first bucket of the first column", Check.desk("sb2;tv4;ra0n9;rb3n2").most(2), 9);
        C.about("the most ROWS that are alike (3; 0: none)");
        C.due("none", Check.desk("t").most(3), 0);
        C.due("one", Check.desk("t;r").most(3), 1);
        C.due("all", full999().most(3), 999);
        SafeBuckets all = everyPair("tv16", 0);
        C.due("of many", all.most(3), 1);
        all.add(0, 15, 15, 1);
        C.due("the last two", all.most(3), 2);
        C.about("HIDDEN: no BOOK, no such what.");
        for (int what = -1; what <= 6; what++) {
            C.due("no book", new SafeBuckets().most(what), HIDDEN);
        }
        for (int what : Check.outside(0, 5)) {
            C.due("what " + what, x.most(what), HIDDEN);
        }
    }

    // ---- promises 25 to 31

    private static void whereAnswers() {
        C.about("Of a WHERE in a TABLE: 0 TRUTH (a LOOK), 1 LOWER, 2 UPPER, 3 ESTIMATE. NONE: no such ones, STOPPED.");
        C.due("no book", Check.whereAlone("a?").where(0, 0, 0), NONE);
        C.due("no where", Check.desk("t").where(0, 0, 0), NONE);
        SafeBuckets x = Check.desk("sq1;tv2;tv2;ra0b0;rt1a0b0;rt1a1b1", "a?", "b?");
        x.where(0, 1, 0);
        for (int what = 0; what <= 3; what++) {
            for (int out : Check.outside(0, 1)) {
                C.due("table " + out, x.where(out, 0, what), NONE);
                C.due("where " + out, x.where(0, out, what), NONE);
            }
        }
        for (int what : Check.outside(0, 3)) {
            C.due("what " + what, x.where(0, 0, what), NONE);
        }
        C.due("no such ones are not stopped", x.status(4), 0);
        traceIs(x, 0, 10);
        C.due("stopped", x.where(1, 1, 0), NONE);
        C.due("status", x.status(4), 1);
        C.due("what is no look is not", x.where(1, 1, 2), 0);
    }

    private static void joinAnswers() {
        C.about("Of a JOIN: 0 TRUTH (a LOOK), 1 UPPER, 2 by DEGREES, 3 ESTIMATE. NONE: no such ones, STOPPED.");
        for (int what = -1; what <= 4; what++) {
            C.due("no book", new SafeBuckets().join(0, 0, 0, 0, what), NONE);
        }
        SafeBuckets x = Check.desk("sq1;tv2;tv2;ra0b0;rt1a0b0;rt1a1b1");
        x.join(0, 0, 1, 1, 0);
        for (int what = 0; what <= 3; what++) {
            for (int out : Check.outside(0, 1)) {
                C.due("table " + out, x.join(out, 0, 0, 0, what), NONE);
                C.due("column " + out, x.join(0, out, 0, 0, what), NONE);
                C.due("other " + out, x.join(0, 0, out, 0, what), NONE);
                C.due("its column " + out, x.join(0, 0, 0, out, what), NONE);
            }
        }
        for (int what : Check.outside(0, 3)) {
            C.due("what " + what, x.join(0, 0, 1, 0, what), NONE);
        }
        C.due("no such ones are not stopped", x.status(4), 0);
        traceIs(x, 0, 1, 11, 10);
        C.due("stopped", x.join(1, 0, 0, 0, 0), NONE);
        C.due("status", x.status(4), 1);
        C.due("what is no look is not", x.join(1, 0, 0, 0, 1), 1);
    }

    private static void chainAnswers() {
        C.about("Of the CHAIN: 0 TRUTH (a LOOK), 1 UPPER. NONE: fewer than three TABLES, no such what, STOPPED.");
        for (int what = 0; what <= 1; what++) {
            SafeBuckets none = new SafeBuckets();
            C.due("no book", none.chain(what), NONE);
            SafeBuckets one = Check.desk("sq1;tv2;ra0b0;ra1b1");
            C.due("one table", one.chain(what), NONE);
            SafeBuckets two = Check.desk("sq1;tv2;tv2;rt1a0b0;rt1a1b1");
            C.due("two tables", two.chain(what), NONE);
            C.due("no look", two.count(5), 0);
            C.due("not stopped", two.status(4), 0);
        }
        SafeBuckets x = Check.desk("sq1;tv2;tv2;tv2;rt1a0b0");
        C.due("three", x.chain(0), 0);
        SafeBuckets fewer = Check.desk("tv2;tv2;tv2;rb1n2;rt1a1b1n3;rt2a1n4");
        C.due("three", fewer.chain(0), 24);
        Check.tell(fewer, "tv2;tv2", 0);
        C.due("of another book", fewer.chain(0), NONE);
        C.due("of another book", fewer.chain(1), NONE);
        for (int what : Check.outside(0, 1)) {
            C.due("what " + what, x.chain(what), NONE);
        }
        C.due("not stopped", x.status(4), 0);
        x.add(1, 1, 1, 1);
        C.due("stopped", x.chain(0), NONE);
        C.due("status", x.status(4), 1);
        C.due("what is no look is not", x.chain(1), 0);
    }

    private static void traceAnswers() {
        C.about("TRACE: the i-th. NONE: no such one.");
        SafeBuckets x = Check.desk("t;t;t", "a?");
        for (int i : new int[] {Integer.MIN_VALUE, -1, 0, 1, Integer.MAX_VALUE}) {
            C.due("none at first", x.trace(i), NONE);
        }
        x.chain(0);
        for (int i : Check.outside(0, 5)) {
            C.due("i " + i, x.trace(i), NONE);
        }
        C.due("the last", x.trace(5), 10);
        x.where(1, 0, 0);
        for (int i : Check.outside(0, 1)) {
            C.due("i " + i, x.trace(i), NONE);
        }
        C.due("the last", x.trace(1), 11);
    }

    private static void narrowAnswers() {
        C.about("NARROW: the COLUMN (0; NONE: none), by how much less (1; 0 for none). HIDDEN: no such ones.");
        C.due("no book", Check.whereAlone("a?").narrow(0, 0, 0), HIDDEN);
        C.due("no where", Check.desk("t").narrow(0, 0, 0), HIDDEN);
        SafeBuckets x = Check.desk("t;t", "a=1", "b=1");
        for (int out : Check.outside(0, 1)) {
            C.due("table " + out, x.narrow(out, 0, 0), HIDDEN);
            C.due("where " + out, x.narrow(0, out, 0), HIDDEN);
            C.due("what " + out, x.narrow(0, 0, out), HIDDEN);
        }
        C.due("none", x.narrow(1, 1, 0), NONE);
        C.due("by none", x.narrow(1, 1, 1), 0);
    }

    private static void oddsAnswers() {
        C.about("ODDS: the upper number (0), the lower one (1). NONE: no such ones, out of bounds, fewer than k ROWS.");
        C.due("no book", Check.whereAlone("a?").odds(0, 0, 1, 0), NONE);
        C.due("no where", Check.desk("t;rn9").odds(0, 0, 1, 0), NONE);
        SafeBuckets x = Check.desk("t;t;ra1n9;rt1a1n9", "a=1", "b=1");
        for (int out : Check.outside(0, 1)) {
            C.due("table " + out, x.odds(out, 0, 1, 0), NONE);
            C.due("where " + out, x.odds(0, out, 1, 0), NONE);
            C.due("what " + out, x.odds(0, 0, 1, out), NONE);
        }
        for (int k : Check.outside(1, 4)) {
            C.due("k " + k, x.odds(0, 0, k, 0), NONE);
            C.due("k " + k, x.odds(0, 0, k, 1), NONE);
        }
        oddsAre(x, 0, 1, 1, 1);
        oddsAre(x, 0, 4, 1, 1);
        for (int rows = 0; rows <= 5; rows++) {
            SafeBuckets y = Check.desk(rows > 0 ? "t;ra1n" + rows : "t", "a=1");
            for (int k = 1; k <= 4; k++) {
                C.due(k + " of " + rows, y.odds(0, 0, k, 1), rows < k ? NONE : 1);
            }
        }
    }

    private static void unitAnswers() {
        C.about("0 its TERM (0 on), 1 its COLUMN, 2 its sign (0 =, 1 <, 2 >, 3 ?), 3 its number (NONE of ?). HIDDEN: no such ones.");
        C.due("no where", new SafeBuckets().unit(0, 0, 0), HIDDEN);
        SafeBuckets x = Check.whereAlone("a=0|a<99|b>7|b?|a?|b=15");
        int[][] want = {{0, 0, 0, 0}, {1, 0, 1, 99}, {2, 1, 2, 7}, {3, 1, 3, NONE}, {4, 0, 3, NONE}, {5, 1, 0, 15}};
        for (int i = 0; i < 6; i++) {
            for (int what = 0; what < 4; what++) {
                C.due("unit " + i + ", " + what, x.unit(0, i, what), want[i][what]);
            }
        }
        for (int i : Check.outside(0, 5)) {
            C.due("i " + i, x.unit(0, i, 0), HIDDEN);
        }
        for (int where : Check.outside(0, 0)) {
            C.due("where " + where, x.unit(where, 0, 0), HIDDEN);
        }
        for (int what : Check.outside(0, 3)) {
            C.due("what " + what, x.unit(0, 0, what), HIDDEN);
        }
        // A shorter one behind it has no units of the longer one.
        Check.tell(x, "b?", 1);
        C.due("one unit", x.unit(1, 0, 1), 1);
        C.due("no second", x.unit(1, 1, 0), HIDDEN);
    }
}
