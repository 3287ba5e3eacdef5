/** Boundary cases of the tape and of texts (promises 1 to 5, terms 1), sentence by sentence. */
public final class BoundaryTextsTest {
    private static final int NONE = SafeBuckets.NONE;
    private static final int HIDDEN = SafeBuckets.HIDDEN;
    private static final int LOWEST = Integer.MIN_VALUE;
    private static final int HIGHEST = Integer.MAX_VALUE;
    private static final int BLANKS = 0x20202020;
    private static final Check C = new Check();

    private BoundaryTextsTest() {
    }

    public static void main(String[] args) {
        newObject();
        feed();
        end();
        clauses();
        items();
        itemBounds();
        wheres();
        units();
        blanks();
        tooEarly();
        faultPlaces();
        sorts();
        texts();
        C.finish("BoundaryTextsTest");
    }

    /** The text as a book: its fault, and what telling it does. */
    private static void book(String text, int fault) {
        SafeBuckets x = new SafeBuckets();
        C.due("fault of book \"" + text + "\"", Check.fault(x, text, 0), fault);
        C.due("the tape behind fault(0)", x.count(2), text.length());
        int told = x.text(0);
        C.due("book \"" + text + "\" is told", told != NONE, fault == NONE);
        C.due("tables", x.count(0), Math.max(0, told));
        C.due("the tape behind text(0)", x.count(2), fault == NONE ? 0 : text.length());
    }

    /** The text as a where: its fault, and what telling it does. */
    private static void where(String text, int fault) {
        SafeBuckets x = new SafeBuckets();
        C.due("fault of where \"" + text + "\"", Check.fault(x, text, 1), fault);
        C.due("the tape behind fault(1)", x.count(2), text.length());
        C.due("where \"" + text + "\" is told", x.text(1), fault == NONE ? 0 : NONE);
        C.due("wheres", x.count(1), fault == NONE ? 1 : 0);
        C.due("the tape behind text(1)", x.count(2), fault == NONE ? 0 : text.length());
    }

    private static int ruleOf(String text, int what) {
        return Check.desk(text).rule(what);
    }

    private static void newObject() {
        C.about("`SafeBuckets()`: No BOOK.");
        SafeBuckets x = new SafeBuckets();
        C.due("tables", x.count(0), 0);
        C.due("wheres", x.count(1), 0);
        C.due("bytes", x.count(2), 0);
        C.due("log", x.count(3), 0);
        C.due("undo", x.count(4), 0);
        C.due("rule", x.rule(2), NONE);
        C.due("most", x.most(4), HIDDEN);
        C.noSuchTable(x, 0, 0);
    }

    // ---- the tape

    /** A new object with so many blanks on its tape. */
    private static SafeBuckets filled(int bytes) {
        SafeBuckets x = new SafeBuckets();
        for (int i = 0; i < bytes / 20; i++) {
            x.feed(BLANKS, BLANKS, BLANKS, BLANKS, BLANKS);
        }
        for (int i = 0; i < bytes % 20; i++) {
            x.feed(0, 0, 0, 0, 32);
        }
        return x;
    }

    private static void feed() {
        C.about("Twenty bytes more come to the TAPE");
        SafeBuckets x = new SafeBuckets();
        for (int i = 1; i <= 12; i++) {
            C.due("20 more", x.feed(-1, -1, -1, -1, -1), 20 * i);
        }
        C.about("of each number the highest first");
        SafeBuckets y = new SafeBuckets();
        // "tv16;ra15b14n13;rb12" in five numbers.
        y.feed(0x74763136, 0x3B726131, 0x35623134, 0x6E31333B, 0x72623132);
        C.due("told", y.text(0), 1);
        C.due("values", y.table(0, 0), 16);
        C.due("rows of 15, 14", y.rows(0, 15, 14), 13);
        C.due("rows of none, 12", y.rows(0, -1, 12), 1);
        C.about("bytes of 0 are left out");
        SafeBuckets z = new SafeBuckets();
        C.due("twenty of 0", z.feed(0, 0, 0, 0, 0), 0);
        C.due("a byte high", z.feed('t' << 24, 0, 0, 0, 0), 1);
        C.due("a byte low", z.feed(0, 0, 0, 0, 'v'), 2);
        C.due("bytes between", z.feed(0, '1' << 16, 0, '6' << 8, 0), 4);
        C.due("in a row", z.text(0), 1);
        C.due("values", z.table(0, 0), 16);
        C.about("NONE: more than 240.");
        C.due("240 at once full", filled(220).feed(-1, -1, -1, -1, -1), 240);
        C.due("241", filled(221).feed(-1, -1, -1, -1, -1), NONE);
        C.due("240 by one byte", filled(239).feed(0, 0, 1 << 24, 0, 0), 240);
        SafeBuckets full = filled(240);
        C.due("241 by one byte", full.feed(1, 0, 0, 0, 0), NONE);
        C.due("full by no byte", full.feed(0, 0, 0, 0, 0), 240);
        SafeBuckets near = filled(238);
        C.due("three more", near.feed('t' << 24, 0, 'v' << 8, 0, '2'), NONE);
        C.due("none of them came", near.count(2), 238);
        C.due("two more", near.feed(0, 't', 0, 0, 32), 240);
        C.due("what came is read", near.text(0), 1);
        C.due("the whole text of 240 is a book of 8", near.table(0, 0), 8);
        for (int place = 0; place < 20; place++) {
            int[] one = new int[5];
            one[place / 4] = 1 << 8 * (place % 4);
            C.due("one byte at " + place, filled(239).feed(one[0], one[1], one[2], one[3], one[4]), 240);
            C.due("one too many at " + place, filled(240).feed(one[0], one[1], one[2], one[3], one[4]), NONE);
            one[place / 4] <<= 7;
            C.due("a high bit at " + place, filled(239).feed(one[0], one[1], one[2], one[3], one[4]), 240);
            one[(place + 5) % 20 / 4] |= 1 << 8 * ((place + 5) % 4);
            C.due("two at " + place, filled(239).feed(one[0], one[1], one[2], one[3], one[4]), NONE);
        }
    }

    private static void end() {
        C.about("The TAPE has its first n bytes alone.");
        SafeBuckets x = new SafeBuckets();
        Check.tape(x, "tv16;x");
        C.due("all", x.end(6), true);
        C.due("all stay", x.count(2), 6);
        C.due("the fault stays", x.fault(0), 5);
        C.due("one less", x.end(5), true);
        C.due("now it ends early", x.fault(0), 5);
        C.due("two less", x.end(4), true);
        C.due("no fault", x.fault(0), NONE);
        C.due("of what was cut nothing comes back", x.feed(0, 0, 0, 0, ';'), 5);
        C.due("ends early", x.fault(0), 5);
        C.due("none", x.end(0), true);
        C.due("empty", x.count(2), 0);
        C.due("none of none", x.end(0), true);
        C.about("False: n.");
        SafeBuckets y = new SafeBuckets();
        C.due("1 of none", y.end(1), false);
        Check.tape(y, "tv4");
        for (int n : new int[] {LOWEST, -2, -1, 4, 5, 240, 241, HIGHEST}) {
            C.due("end(" + n + ") of 3", y.end(n), false);
            C.due("stays", y.count(2), 3);
        }
        C.due("the text is there", y.text(0), 1);
        C.due("with its number", y.table(0, 0), 4);
        SafeBuckets z = filled(240);
        C.due("241 of 240", z.end(241), false);
        C.due("240 of 240", z.end(240), true);
    }

    // ---- books

    private static void clauses() {
        C.about("A BOOK is a TEXT: CLAUSES with ; between");
        book("t", NONE);
        book("t;s;r", NONE);
        book(";t", 0);
        book("t;", 2);
        book("t;;s", 2);
        book("ts", 1);
        book("tv4r", 3);
        book("t,s", 1);
        C.about("s (its RULES; one at most)");
        book("s;t", NONE);
        book("s;t;s", 4);
        book("t;sb1;r;sb1", 8);
        C.about("t (a TABLE; 1 .. 3)");
        book("s", 1);
        C.due("one", Check.tell(new SafeBuckets(), "t", 0), 1);
        C.due("two", Check.tell(new SafeBuckets(), "t;t", 0), 2);
        C.due("three", Check.tell(new SafeBuckets(), "t;t;t", 0), 3);
        book("t;t;t;t", 6);
        C.about("r (ROWS; none to 20)");
        C.due("none", Check.desk("t").table(0, 1), 0);
        C.due("one", Check.desk("t;r").table(0, 1), 1);
        C.due("19", Check.desk("t" + ";r".repeat(19)).table(0, 1), 19);
        C.due("20", Check.desk("t" + ";r".repeat(20)).table(0, 1), 20);
        C.due("20 of 40", Check.desk("t" + ";rn40".repeat(20)).table(0, 1), 800);
        book("t" + ";r".repeat(21), 42);
        C.about("in any order");
        String[] orders = {"sb1;tv4;ra3", "sb1;ra3;tv4", "tv4;sb1;ra3", "tv4;ra3;sb1", "ra3;sb1;tv4", "ra3;tv4;sb1"};
        for (String order : orders) {
            SafeBuckets x = Check.desk(order);
            C.due(order + ": buckets", x.rule(0), 1);
            C.due(order + ": values", x.table(0, 0), 4);
            C.due(order + ": rows", x.rows(0, 3, -1), 1);
        }
        book("rt2a15;t;tv2;tv16", NONE);
    }

    private static void items() {
        C.about("then ITEMS, none or more: a letter, each once at most in a CLAUSE");
        String[] items = {"sb1d1q1", "tv2", "rt0a1b1n1"};
        String[] letters = {"bdq", "v", "tabn"};
        for (int kind = 0; kind < 3; kind++) {
            String rest = kind == 1 ? "" : ";t;t;t";
            book(items[kind].charAt(0) + rest, NONE);
            book(items[kind] + rest, NONE);
            int length = items[kind].length();
            for (char c = 'a'; c <= 'z'; c++) {
                boolean known = letters[kind].indexOf(c) >= 0;
                // Behind all its items each letter is one too many, known or not.
                book(items[kind] + c + "1" + rest, length);
                book(items[kind].charAt(0) + "" + c + "2" + rest, known ? NONE : 1);
            }
        }
        book("tv2;tv2;rt1a1;rt1a1", NONE);
        C.about("a number (one to three digits)");
        for (String head : new String[] {"t;sb", "t;sd", "t;sq", "tv", "t;rt", "t;ra", "t;rb", "t;rn"}) {
            int at = head.length();
            book(head, at);
            book(head + ";t", at);
            book(head + "-1", at);
            String good = head.equals("tv") ? "2" : head.equals("t;rt") ? "0" : "1";
            book(head + good, NONE);
            book(head + "0" + good, NONE);
            book(head + "00" + good, NONE);
            book(head + "000" + good, at + 3);
            book(head + "0000" + good, at + 3);
        }
    }

    private static void itemBounds() {
        C.about("b BUCKETS (1 .. 8; 3 without)");
        book("sb0;t", 2);
        C.due("1", ruleOf("sb1;t", 0), 1);
        C.due("8", ruleOf("sb8;t", 0), 8);
        book("sb9;t", 2);
        C.due("without", ruleOf("sd1;t", 0), 3);
        C.due("without rules", ruleOf("t", 0), 3);
        C.about("d DRIFT (0 .. 99; 20)");
        C.due("0", ruleOf("sd0;t", 1), 0);
        C.due("99", ruleOf("sd99;t", 1), 99);
        book("sd100;t", 4);
        C.due("without", ruleOf("sb1;t", 1), 20);
        C.due("without rules", ruleOf("t", 1), 20);
        C.about("q BUDGET (1 .. 999; 999)");
        book("sq0;t", 2);
        C.due("1", ruleOf("sq1;t", 2), 1);
        C.due("999", ruleOf("sq999;t", 2), 999);
        book("sq1000;t", 5);
        C.due("998", ruleOf("sq998;t", 2), 998);
        C.due("without", ruleOf("s;t", 2), 999);
        C.due("without rules", ruleOf("t", 2), 999);
        C.about("v VALUES (2 .. 16; 8)");
        book("tv0", 2);
        book("tv1", 2);
        C.due("2", Check.desk("tv2").table(0, 0), 2);
        C.due("16", Check.desk("tv16").table(0, 0), 16);
        book("tv17", 3);
        C.due("without", Check.desk("t").table(0, 0), 8);
        C.due("without behind one with", Check.desk("tv2;t").table(1, 0), 8);
        C.about("t the TABLE (0 .. 2; 0)");
        C.due("0", Check.desk("t;t;t;rt0").table(0, 1), 1);
        C.due("2", Check.desk("t;t;t;rt2").table(2, 1), 1);
        book("t;t;t;rt3", 8);
        C.due("without", Check.desk("t;t;t;ra1").table(0, 1), 1);
        C.due("without behind one with", Check.desk("t;t;rt1;r").table(0, 1), 1);
        C.about("a, b what it has in COLUMN 0, in COLUMN 1 (0 .. 15; MISSING without)");
        C.due("0 and 15", Check.desk("tv16;ra0b15").rows(0, 0, 15), 1);
        C.due("15 and 0", Check.desk("tv16;ra15b0").rows(0, 15, 0), 1);
        book("tv16;ra16", 8);
        book("tv16;rb16", 8);
        C.due("without a", Check.desk("t;rb3").rows(0, -1, 3), 1);
        C.due("without b", Check.desk("t;ra3").rows(0, 3, -1), 1);
        C.due("without both", Check.desk("t;ra3b3;r").rows(0, -1, -1), 1);
        C.about("n how many (1 .. 40; 1)");
        book("t;rn0", 4);
        C.due("1", Check.desk("t;rn1").table(0, 1), 1);
        C.due("40", Check.desk("t;rn40").table(0, 1), 40);
        book("t;rn41", 5);
        C.due("without", Check.desk("t;rn9;r").table(0, 1), 10);
    }

    // ---- wheres

    private static void wheres() {
        C.about("WHERES (4 at most) are TEXTS");
        SafeBuckets x = new SafeBuckets();
        for (int i = 0; i < 4; i++) {
            C.due("where " + i, Check.tell(x, "a=1" + i, 1), i);
            C.due("so many", x.count(1), i + 1);
        }
        Check.tape(x, "b=99|b?");
        C.due("a fifth has no fault", x.fault(1), NONE);
        C.due("a fifth is refused", x.text(1), NONE);
        C.due("there are four", x.count(1), 4);
        C.due("no fifth's unit", x.unit(4, 0, 0), HIDDEN);
        for (int i = 0; i < 4; i++) {
            C.due("where " + i + " is as it was", x.unit(i, 0, 3), 10 + i);
            C.due("and has one unit", x.unit(i, 1, 0), HIDDEN);
        }
        C.about("TERMS with | between");
        where("a?|b?", NONE);
        where("|a?", 0);
        where("a?|", 3);
        where("a?||b?", 3);
        where("a?|&b?", 3);
        SafeBuckets y = new SafeBuckets();
        Check.tell(y, "a?|b?&a?|a?", 1);
        int[] terms = {0, 1, 1, 2};
        for (int i = 0; i < 4; i++) {
            C.due("term of unit " + i, y.unit(0, i, 0), terms[i]);
        }
    }

    private static void units() {
        C.about("UNITS with & between (six UNITS in all at most)");
        where("a?&b?", NONE);
        where("&a?", 0);
        where("a?&", 3);
        where("a?&&b?", 3);
        where("a?b?", 2);
        where("a?&a?&a?&a?&a?&a?", NONE);
        where("a?|a?|a?|a?|a?|a?", NONE);
        where("a?&a?&a?|a?&a?&a?", NONE);
        where("a?&a?&a?&a?&a?&a?&a?", 18);
        where("a?|a?|a?|a?|a?|a?|a?", 18);
        SafeBuckets x = new SafeBuckets();
        Check.tell(x, "a=1&a=2&a=3&a=4&a=5&a=6", 1);
        C.due("the sixth", x.unit(0, 5, 3), 6);
        C.due("no seventh", x.unit(0, 6, 3), HIDDEN);
        C.about("UNIT: a or b (COLUMN 0, 1), then ? (it is MISSING), or one of = < > and a number (one or two digits)");
        for (int sign = 1; sign < 256; sign++) {
            char c = (char) sign;
            if (c != ' ') {
                where(c + "?", c == 'a' || c == 'b' ? NONE : 0);
                where("a" + c, c == '?' ? NONE : "=<>".indexOf(c) >= 0 ? 2 : 1);
                where("b" + c + "1", c == '?' ? 2 : "=<>".indexOf(c) >= 0 ? NONE : 1);
                where("b=" + c, c >= '0' && c <= '9' ? NONE : 2);
            }
        }
        for (String sign : new String[] {"=", "<", ">"}) {
            where("a" + sign, 2);
            where("a" + sign + "&b?", 2);
            where("a" + sign + "0", NONE);
            where("a" + sign + "00", NONE);
            where("a" + sign + "99", NONE);
            where("a" + sign + "000", 4);
        }
        C.due("99 is a number", unitOf("a>99", 3), 99);
        C.due("0 is one", unitOf("a>0", 3), 0);
        C.due("of ? there is none", unitOf("a?", 3), NONE);
    }

    private static int unitOf(String where, int what) {
        SafeBuckets x = new SafeBuckets();
        Check.tell(x, where, 1);
        return x.unit(0, 0, what);
    }

    // ---- blanks, and where a text is wrong

    private static void blanks() {
        C.about("Blanks (32) may stand between all signs of both, not within a number.");
        book("s  b 8  d 0 q 1 ; t  v 16 ; r t 0 a 15  b 0 n 40", NONE);
        book("sb8d0q1;tv16;rt0a15b0n40", NONE);
        book("   t", NONE);
        book("t   ", NONE);
        where(" a  = 10 & b ?  | b <  9 ", NONE);
        book("tv1 6", 2);
        book("tv8 8", 4);
        book("sb1 ;t v 2 2", 11);
        where("a=1 0", 4);
        where("a<1  ?", 5);
        for (int sign : new int[] {1, 9, 10, 13, 31, 33, 160, 255}) {
            book("t" + (char) sign, 1);
            where("a" + (char) sign + "?", 1);
        }
    }

    /** Each beginning of a text that is whole nowhere but where told is wrong at its length. */
    private static void tooEarly() {
        C.about("the length, if it ends too early");
        book("", 0);
        book(" ", 1);
        book("t;", 2);
        book("t; ", 3);
        book("sb", 2);
        book("sb ", 3);
        book("t;rt0a", 6);
        where("", 0);
        where("  ", 2);
        where("a", 1);
        where("a ", 2);
        where("a<", 2);
        where("a< ", 3);
        where("a?&", 3);
        where("a?| ", 4);
        where("a?&a?&a?&a?&a?&a?&", 18);
        where("a?&a?&a?&a?&a?&a?| ", 19);
        String whole = "a=1&b?|b>22";
        for (int n = 0; n < whole.length(); n++) {
            boolean fine = n == 3 || n == 6 || n == 10;
            where(whole.substring(0, n), fine ? NONE : n);
        }
        C.about("without a TABLE");
        book("s", 1);
        book("r", 1);
        book("s;r", 3);
        book("sb8d0q1", 7);
        book("r ", 2);
        book("t", NONE);
        C.about("with ROWS of a TABLE that is not there");
        book("t;rt1", 5);
        book("t;rt2", 5);
        book("t;t;rt2", 7);
        book("rt1;t", 5);
        book("rt1;t;t", NONE);
        book("t;t;t;rt2", NONE);
        book("t;rt1;sb1", 9);
        C.about("or with a VALUE that is not below its VALUES");
        book("t;ra7b7", NONE);
        book("t;ra8", 5);
        book("t;rb8", 5);
        book("tv2;ra1b1", NONE);
        book("tv2;ra2", 7);
        book("tv2;rb2", 7);
        book("tv2;ra15", 8);
        book("tv2;rb15", 8);
        book("tv16;ra15b15", NONE);
        book("tv15;ra15", 9);
        book("tv15;rb15;s", 11);
        book("tv2;tv9;rt1a8b8", NONE);
        book("tv9;tv2;rt1a2", 13);
        book("ra8;tv9", NONE);
        book("ra8;t", 5);
        book("t;r;ra7;rb8;r", 13);
    }

    private static void faultPlaces() {
        C.about("the first byte at which no such TEXT can go on");
        book("x", 0);
        book("t;x;y", 2);
        book("t;ra8;sb9", 8);
        book("rt2;t;!", 6);
        where("a?&c?|d?", 3);
        book("t\u00ff", 1);
        C.about("a number out of bounds is wrong at its last digit");
        book("sb9;t", 2);
        book("sb10;t", 3);
        book("sb009;t", 4);
        book("sb00;t", 3);
        book("sb000;t", 4);
        book("sd999;t", 4);
        book("sq000;t", 4);
        book("tv17", 3);
        book("tv017", 4);
        book("tv01;t", 3);
        book("t;rt03", 5);
        book("t;ra016", 6);
        book("t;rb99", 5);
        book("t;rn000", 6);
        book("t;rn041", 6);
        book("sb9", 2);
        C.about("one digit more itself, whatever stands ahead of it");
        book("sb0001;t", 5);
        book("sb0000;t", 5);
        book("sb9999;t", 5);
        book("sb99999;t", 5);
        book("sd1000;t", 5);
        book("tv0016", 5);
        book("t;rn0400", 7);
        where("a=000", 4);
        where("a<100", 4);
        where("a>9999", 4);
        C.about("a letter that was there");
        book("sb1b1;t", 3);
        book("sb1d1b1;t", 5);
        book("sb1d1q1d1;t", 7);
        book("tv2v2", 3);
        book("t;ra1b1n1t0a1", 11);
        book("t;rn1 n", 6);
        C.about("a second s");
        book("s;s", 2);
        book("t;s;r; sb1", 7);
        C.about("a fourth t");
        book("t;t;t; t", 7);
        book("tv2;tv2;s;tv2;tv2", 14);
        C.about("a 21st r");
        book("t" + ";r".repeat(20), NONE);
        book("t" + ";r".repeat(20) + ";rn1", 42);
        book("r;".repeat(20) + " r", 41);
        C.about("a seventh UNIT's letter");
        where("a?&a?&a?&a?&a?&a?& a", 19);
        where("a?&a?&a?&a?&a?&a?|b?", 18);
        where("a?&a?&a?&a?&a?&a?c", 17);
        where("a?&a?&a?&a?&a?&a?&?", 18);
        where("a=1&a=2&a=3&a=4&a=5&a=66", NONE);
        where("a=1&a=2&a=3&a=4&a=5&a=66&b", 25);
    }

    // ---- promises 4 and 5

    private static void sorts() {
        C.about("NONE: none. -2: no such sort.");
        SafeBuckets x = new SafeBuckets();
        Check.tape(x, "t");
        C.due("no fault", x.fault(0), NONE);
        for (int sort : new int[] {LOWEST, -2, -1, 2, 3, HIGHEST}) {
            C.due("sort " + sort, x.fault(sort), -2);
        }
        Check.tape(x, "b?");
        C.due("no fault", x.fault(1), NONE);
    }

    private static void texts() {
        C.about("NONE: a FAULT (the TAPE stays), no such sort, there are four WHERES.");
        SafeBuckets x = Check.desk("tv5;tv6", "a?");
        Check.tape(x, "tv2;q");
        C.due("a fault of a book", x.text(0), NONE);
        C.due("and of a where", x.text(1), NONE);
        C.due("the tape stays", x.count(2), 5);
        C.due("with what it had", x.fault(0), 4);
        C.due("the book stays", x.table(1, 0), 6);
        C.due("the wheres stay", x.count(1), 1);
        Check.tape(x, "tv2");
        for (int sort : new int[] {LOWEST, -2, -1, 2, 3, HIGHEST}) {
            C.due("text(" + sort + ")", x.text(sort), NONE);
            C.due("the tape stays", x.count(2), 3);
        }
        C.due("an empty tape", Check.tell(x, "", 0), NONE);
        C.due("an empty tape", x.text(1), NONE);
        Check.tell(x, "a=1", 1);
        Check.tell(x, "a=2", 1);
        C.due("the fourth", Check.tell(x, "a=3", 1), 3);
        C.due("a fifth", Check.tell(x, "a=4", 1), NONE);
        C.due("its tape stays", x.count(2), 3);
        C.due("four are no matter to a book", Check.tell(x, "t", 0), 1);
        C.about("The TAPE (empty then) is the BOOK");
        SafeBuckets empty = Check.desk("tv16", "a=15");
        C.due("behind a book and a where", empty.count(2), 0);
        C.due("nothing of them is left to read", empty.fault(0), 0);
        C.due("nor as a where", empty.fault(1), 0);
        C.due("nor to tell", empty.text(0), NONE);
        C.due("nor to tell", empty.text(1), NONE);
        C.due("nor to cut", empty.end(1), false);
        C.about("all that was of another one is gone but WHERES, STATUS, TRACE");
        SafeBuckets y = Check.desk("sb8d9q2;tv16;ra15b15n9;rn4;tv3;rt1a2n5;t", "a=15", "a?|b?");
        y.add(0, 0, 0, 5);
        y.move(0, 0, 0, 1, 1);
        y.where(0, 1, 0);
        y.where(0, 1, 0);
        y.budget(0);
        y.budget(1);
        y.join(0, 0, 1, 0, 0);
        y.image();
        C.due("stopped", y.status(4), 3);
        C.due("another book", Check.tell(y, "tv16", 0), 1);
        C.due("rows", y.most(4), 0);
        C.due("missing", y.table(0, 2), 0);
        C.due("missing", y.table(0, 3), 0);
        C.due("alike", y.most(3), 0);
        C.due("totals", y.most(2), 0);
        C.due("drift", y.column(0, 0, 1), 0);
        C.due("rules", y.rule(0), 3);
        C.due("rules", y.rule(1), 20);
        C.due("budget", y.rule(2), 999);
        C.due("log", y.count(3), 0);
        C.due("log", y.log(0, 0), HIDDEN);
        C.due("acts", y.count(4), 0);
        C.due("undo", y.undo(), NONE);
        C.due("back", y.back(), NONE);
        C.noSuchTable(y, 1, 0);
        C.due("wheres are not", y.count(1), 2);
        C.due("their units", y.unit(0, 0, 3), 15);
        C.due("status is not", y.status(1), 1);
        C.due("nor of looks", y.status(4), 3);
        C.due("trace is not", y.count(5), 4);
        C.due("as it was", y.trace(1), 1);
        C.due("the same text as book again", Check.tell(y, "tv16", 0), 1);
        C.due("a book of its own: no image", y.back(), NONE);
    }
}
