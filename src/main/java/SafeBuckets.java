import java.util.Arrays;
import java.util.NoSuchElementException;

/** A desk that says how many rows there will be; ../shared/DOC.md has its promises. */
public final class SafeBuckets {
    public static final int NONE = -1;
    public static final int HIDDEN = -1000000;

    private static final int MOST_BYTES = 240;
    private static final int MOST_TABLES = 3;
    private static final int MOST_VALUES = 16;
    private static final int MOST_BUCKETS = 8;
    private static final int MOST_ROWS = 999;
    private static final int MOST_ROWS_AT_ONCE = 99;
    private static final int MOST_BUDGET = 999;
    private static final int MOST_YEARS = 40;
    private static final int MOST_WHERES = 4;
    private static final int MOST_UNITS = 6;
    private static final int MOST_DRAWN = 4;
    private static final int MOST_SHARED = 999;
    private static final int COLUMNS = 2;
    /** Values and MISSING, which stands ahead of them. */
    private static final int SIDE = MOST_VALUES + 1;
    private static final int CELLS = SIDE * SIDE;

    private static final int ADDED = 0;
    private static final int DROPPED = 1;
    private static final int MOVED = 2;
    private static final int BUILT = 3;
    private static final int BUDGET_SET = 4;

    private static final int NO_SUCH = 0;
    private static final int OUT_OF_BOUNDS = 1;
    private static final int IS_SO = 2;
    private static final int TOO_MUCH = 3;
    private static final int STOPPED = 4;
    private static final int STATUS_SORTS = 5;

    private static final int GIVEN_BACK = 10;

    private final Tape tape;
    private final BookReader reader;
    private final Book book;
    /** The one at whereCount is the draft that the tape is read into. */
    private final Where[] wheres;
    private final int[] refused;
    private final Past past;
    /** The image: a copy of the book, without tables if there is none. */
    private final Book kept;
    /** What the latest look took and gave back. */
    private final int[] trail;
    private final Layout layout;
    private final Bounds bounds;
    private final Lane ifBuilt;
    private int whereCount;
    private int trailLength;
    /** The x of the years' draws. */
    private long drawn;

    public SafeBuckets() {
        tape = new Tape();
        reader = new BookReader();
        book = new Book();
        wheres = new Where[MOST_WHERES + 1];
        for (int i = 0; i < wheres.length; i++) {
            wheres[i] = new Where();
        }
        refused = new int[STATUS_SORTS];
        past = new Past();
        kept = new Book();
        trail = new int[2 * MOST_TABLES];
        layout = new Layout();
        bounds = new Bounds();
        ifBuilt = new Lane();
        whereCount = 0;
        trailLength = 0;
        drawn = 0;
    }

    // ---- the tape and the texts

    public int feed(int a, int b, int c, int d, int e) {
        int more = Tape.bytesIn(a) + Tape.bytesIn(b) + Tape.bytesIn(c) + Tape.bytesIn(d) + Tape.bytesIn(e);
        if (tape.length + more > MOST_BYTES) {
            return NONE;
        }
        tape.append(a);
        tape.append(b);
        tape.append(c);
        tape.append(d);
        tape.append(e);
        return tape.length;
    }

    public boolean end(int n) {
        if (n < 0 || n > tape.length) {
            return false;
        }
        tape.length = n;
        return true;
    }

    public int fault(int sort) {
        if (sort == 0) {
            return reader.read(tape);
        }
        return sort == 1 ? wheres[whereCount].read(tape) : -2;
    }

    public int text(int sort) {
        if (sort == 0) {
            return tellBook();
        }
        return sort == 1 ? tellWhere() : NONE;
    }

    private int tellBook() {
        if (reader.read(tape) != NONE) {
            return NONE;
        }
        book.tell(reader, layout);
        past.forget();
        kept.tables = 0;
        tape.length = 0;
        return book.tables;
    }

    private int tellWhere() {
        if (whereCount >= MOST_WHERES || wheres[whereCount].read(tape) != NONE) {
            return NONE;
        }
        whereCount++;
        tape.length = 0;
        return whereCount - 1;
    }

    // ---- what there is

    public int rule(int what) {
        if (!hasBook()) {
            return NONE;
        }
        switch (what) {
            case 0: return book.buckets;
            case 1: return book.drift;
            case 2: return book.budget;
            default: return NONE;
        }
    }

    public int table(int table, int what) throws NoSuchElementException {
        if (!hasTable(table) || what < 0 || what > 3) {
            throw new NoSuchElementException("no such table or what");
        }
        Sheet sheet = book.sheets[table];
        switch (what) {
            case 0: return sheet.values;
            case 1: return sheet.rowCount;
            case 2: return sheet.lanes[0].missing;
            default: return sheet.lanes[1].missing;
        }
    }

    public int rows(int table, int a, int b) {
        return hasCell(table, a, b) ? book.sheets[table].alike(a, b) : NONE;
    }

    public int countOf(int table, int column, int value) {
        if (!hasColumn(table, column)) {
            return NONE;
        }
        Lane lane = book.sheets[table].lanes[column];
        return value >= 0 && value < lane.values ? lane.counts[value] : NONE;
    }

    public int bucket(int table, int column, int i, int what) {
        if (!hasColumn(table, column)) {
            return HIDDEN;
        }
        Lane lane = book.sheets[table].lanes[column];
        if (i < 0 || i >= lane.size()) {
            return HIDDEN;
        }
        switch (what) {
            case 0: return lane.firstOf(i);
            case 1: return lane.lastOf(i);
            case 2: return lane.totalOf(i);
            case 3: return lane.greatestOf(i);
            default: return HIDDEN;
        }
    }

    public int column(int table, int column, int what) {
        if (!hasColumn(table, column)) {
            return NONE;
        }
        Lane lane = book.sheets[table].lanes[column];
        switch (what) {
            case 0: return lane.size();
            case 1: return lane.drift();
            case 2: return layout.worstOf(lane);
            case 3: return book.drift - lane.drift();
            default: return NONE;
        }
    }

    // ---- the least errors

    public long error(int table, int column, int k) {
        return solve(table, column, k) ? layout.leastBy(k) : NONE;
    }

    public int border(int table, int column, int k, int i) {
        if (i < 0 || i >= k || !solve(table, column, k)) {
            return NONE;
        }
        return layout.borderOf(k, i);
    }

    public int tried(int table, int column, int k, int what) {
        if (what < 0 || what > 1 || !solve(table, column, k)) {
            return NONE;
        }
        return what == 0 ? layout.tries : layout.plain;
    }

    public int fewest(int table, int column, long error) {
        if (error < 0 || !hasColumn(table, column)) {
            return NONE;
        }
        int values = book.sheets[table].values;
        layout.solve(book.sheets[table].lanes[column], values);
        for (int k = 1; k < values; k++) {
            if (layout.leastBy(k) <= error) {
                return k;
            }
        }
        return values;
    }

    /** Whether there is such a column and number of buckets; its least errors stand in the layout then. */
    private boolean solve(int table, int column, int k) {
        if (!hasColumn(table, column) || k < 1 || k > book.sheets[table].values) {
            return false;
        }
        layout.solve(book.sheets[table].lanes[column], k);
        return true;
    }

    // ---- acts

    public int add(int table, int a, int b, int n) {
        int why = whyNoAdd(table, a, b, n);
        if (why != NONE) {
            return refuse(why);
        }
        doChange(table, a, b, n);
        return book.sheets[table].rowCount;
    }

    public int drop(int table, int a, int b, int n) {
        int why = whyNoDrop(table, a, b, n);
        if (why != NONE) {
            return refuse(why);
        }
        doChange(table, a, b, -n);
        return book.sheets[table].rowCount;
    }

    public int move(int table, int a, int b, int c, int d) {
        if (!hasCell(table, a, b) || !hasCell(table, c, d)) {
            return refuse(NO_SUCH);
        }
        if (a == c && b == d) {
            return refuse(IS_SO);
        }
        Sheet sheet = book.sheets[table];
        if (sheet.alike(a, b) < 1) {
            return refuse(TOO_MUCH);
        }
        past.open(book, table);
        past.noteRows(a, b, -1);
        book.changeRows(sheet, a, b, -1, layout);
        past.noteRows(c, d, 1);
        book.changeRows(sheet, c, d, 1, layout);
        book.diary.note(MOVED, table, 1);
        return sheet.alike(c, d);
    }

    public int build(int table, int column) {
        int why = whyNoBuild(table, column);
        if (why != NONE) {
            return refuse(why);
        }
        doBuild(table, column);
        return book.sheets[table].lanes[column].size();
    }

    public int budget(int n) {
        if (!hasBook()) {
            return refuse(NO_SUCH);
        }
        if (n < 1 || n > MOST_BUDGET) {
            return refuse(OUT_OF_BOUNDS);
        }
        if (n == book.budget) {
            return refuse(IS_SO);
        }
        int was = book.budget;
        past.open(book, NONE);
        book.budget = n;
        book.diary.note(BUDGET_SET, NONE, n);
        return was;
    }

    private int whyNoAdd(int table, int a, int b, int n) {
        int why = whyNoRows(table, a, b, n);
        if (why == NONE && book.sheets[table].rowCount + n > MOST_ROWS) {
            return TOO_MUCH;
        }
        return why;
    }

    private int whyNoDrop(int table, int a, int b, int n) {
        int why = whyNoRows(table, a, b, n);
        if (why == NONE && book.sheets[table].alike(a, b) < n) {
            return TOO_MUCH;
        }
        return why;
    }

    private int whyNoRows(int table, int a, int b, int n) {
        if (!hasCell(table, a, b)) {
            return NO_SUCH;
        }
        return n < 1 || n > MOST_ROWS_AT_ONCE ? OUT_OF_BOUNDS : NONE;
    }

    private int whyNoBuild(int table, int column) {
        if (!hasColumn(table, column)) {
            return NO_SUCH;
        }
        return book.sheets[table].lanes[column].drift() == 0 ? IS_SO : NONE;
    }

    private int refuse(int why) {
        refused[why]++;
        return NONE;
    }

    /** n rows are added, or dropped (n below 0). */
    private void doChange(int table, int a, int b, int n) {
        past.open(book, table);
        past.noteRows(a, b, n);
        book.changeRows(book.sheets[table], a, b, n, layout);
        book.diary.note(n > 0 ? ADDED : DROPPED, table, Math.abs(n));
    }

    private void doBuild(int table, int column) {
        past.open(book, table);
        book.sheets[table].lanes[column].layAnew(layout, book.buckets);
        book.diary.note(BUILT, table, column);
    }

    public int years(int n, long seed) {
        if (!hasBook() || n < 1 || n > MOST_YEARS) {
            return NONE;
        }
        drawn = seed;
        for (int year = 0; year < n; year++) {
            passYear();
        }
        return book.allRows();
    }

    private void passYear() {
        int sort = draw(4);
        int table = draw(book.tables);
        if (sort == 3) {
            int column = draw(COLUMNS);
            if (whyNoBuild(table, column) == NONE) {
                doBuild(table, column);
            }
            return;
        }
        int values = book.sheets[table].values;
        int a = drawOrMissing(values);
        int b = drawOrMissing(values);
        int n = draw(5) + 1;
        if (sort == 2) {
            if (whyNoDrop(table, a, b, n) == NONE) {
                doChange(table, a, b, -n);
            }
        } else if (whyNoAdd(table, a, b, n) == NONE) {
            doChange(table, a, b, n);
        }
    }

    private int draw(int of) {
        drawn = drawn * 6364136223846793005L + 1442695040888963407L;
        return of > 0 ? (int) ((drawn >>> 33) % of) : 0;
    }

    private int drawOrMissing(int values) {
        int value = draw(values + 1);
        return value == values ? NONE : value;
    }

    public int status(int what) {
        return what >= 0 && what < refused.length ? refused[what] : NONE;
    }

    public int undo() {
        if (past.size == 0) {
            return NONE;
        }
        past.undoLatest(book);
        return past.size;
    }

    public int log(int i, int what) {
        if (i < 0 || i >= book.diary.length()) {
            return HIDDEN;
        }
        return what >= 0 && what < Diary.PARTS ? book.diary.read(i, what) : HIDDEN;
    }

    // ---- looks, and bounds by the buckets

    public int where(int table, int where, int what) {
        if (!hasTable(table) || !hasWhere(where) || what < 0 || what > 3) {
            return NONE;
        }
        Sheet sheet = book.sheets[table];
        if (what == 0) {
            beginLook();
            take(table);
            return (int) endLook(sheet.rowsHeldBy(wheres[where], book.budget));
        }
        bounds.find(wheres[where], sheet, sheet.lanes[0], sheet.lanes[1]);
        if (what == 1) {
            return bounds.lower;
        }
        return what == 2 ? bounds.upper : bounds.estimate;
    }

    public long join(int table, int column, int other, int itsColumn, int what) {
        if (!hasColumn(table, column) || !hasColumn(other, itsColumn)) {
            return NONE;
        }
        Lane one = book.sheets[table].lanes[column];
        Lane two = book.sheets[other].lanes[itsColumn];
        switch (what) {
            case 0:
                beginLook();
                take(table);
                take(other);
                return endLook(one.joinTruth(two, book.budget));
            case 1: return one.joinUpper(two);
            case 2: return one.joinByDegrees(two);
            case 3: return one.joinEstimate(two);
            default: return NONE;
        }
    }

    public long chain(int what) {
        if (book.tables < MOST_TABLES || what < 0 || what > 1) {
            return NONE;
        }
        Lane ahead = book.sheets[0].lanes[1];
        Sheet middle = book.sheets[1];
        Lane behind = book.sheets[2].lanes[0];
        if (what == 1) {
            return middle.chainUpper(ahead, behind);
        }
        beginLook();
        for (int table = 0; table < MOST_TABLES; table++) {
            take(table);
        }
        return endLook(middle.chainTruth(ahead, behind, book.budget));
    }

    private void beginLook() {
        trailLength = 0;
    }

    private void take(int table) {
        if (trailLength < MOST_TABLES) {
            trail[trailLength] = table;
            trailLength++;
        }
    }

    /** Gives back what the look took, however it went; the answer is NONE where the look was stopped. */
    private long endLook(long answer) {
        int taken = Math.min(trailLength, MOST_TABLES);
        for (int i = 0; i < taken; i++) {
            trail[taken + i] = GIVEN_BACK + trail[taken - 1 - i];
        }
        trailLength = 2 * taken;
        if (answer == NONE) {
            refused[STOPPED]++;
        }
        return answer;
    }

    public int trace(int i) {
        return i >= 0 && i < trailLength ? trail[i] : NONE;
    }

    public int narrow(int table, int where, int what) {
        if (!hasTable(table) || !hasWhere(where) || what < 0 || what > 1) {
            return HIDDEN;
        }
        Sheet sheet = book.sheets[table];
        Where told = wheres[where];
        int now = bounds.spread(told, sheet, sheet.lanes[0], sheet.lanes[1]);
        int first = bounds.spread(told, sheet, asIfBuilt(sheet.lanes[0]), sheet.lanes[1]);
        int second = bounds.spread(told, sheet, sheet.lanes[0], asIfBuilt(sheet.lanes[1]));
        int least = Math.min(first, second);
        if (least >= now) {
            return what == 0 ? NONE : 0;
        }
        if (what == 1) {
            return now - least;
        }
        return first <= second ? 0 : 1;
    }

    private Lane asIfBuilt(Lane lane) {
        ifBuilt.copyFrom(lane);
        ifBuilt.layAnew(layout, book.buckets);
        return ifBuilt;
    }

    public long odds(int table, int where, int k, int what) {
        if (!hasTable(table) || !hasWhere(where) || k < 1 || k > MOST_DRAWN || what < 0 || what > 1) {
            return NONE;
        }
        Sheet sheet = book.sheets[table];
        if (sheet.rowCount < k) {
            return NONE;
        }
        // Not a look: a budget of all cells is never too small.
        long held = sheet.rowsHeldBy(wheres[where], CELLS);
        if (held < k) {
            return what == 0 ? 0 : 1;
        }
        long upper = 1;
        long lower = 1;
        for (int i = 0; i < k; i++) {
            upper *= held - i;
            lower *= sheet.rowCount - i;
        }
        long common = commonDivisor(upper, lower);
        return (what == 0 ? upper : lower) / common;
    }

    /** For numbers of 1 and more; each two turns at least halve the greater, so 128 are plenty. */
    private static long commonDivisor(long one, long other) {
        long big = one;
        long small = other;
        for (int turn = 0; turn < 128 && small > 0; turn++) {
            long rest = big % small;
            big = small;
            small = rest;
        }
        return big > 0 ? big : 1;
    }

    public int unit(int where, int i, int what) {
        if (!hasWhere(where) || i < 0 || i >= wheres[where].size) {
            return HIDDEN;
        }
        Where told = wheres[where];
        switch (what) {
            case 0: return told.terms[i];
            case 1: return told.columns[i];
            case 2: return told.signs[i];
            case 3: return told.numbers[i];
            default: return HIDDEN;
        }
    }

    public int shares(int table, int c) {
        if (!hasTable(table) || c < 0 || c > MOST_SHARED) {
            return NONE;
        }
        int all = book.allRows();
        return all > 0 ? c * book.sheets[table].rowCount / all : 0;
    }

    public int most(int what) {
        if (!hasBook()) {
            return HIDDEN;
        }
        switch (what) {
            case 0: return book.tableWithMostRows();
            case 1: return book.columnDriftedMost();
            case 2: return book.greatestTotal();
            case 3: return book.mostAlike();
            case 4: return book.allRows();
            case 5: return book.valueSeenMost();
            default: return HIDDEN;
        }
    }

    // ---- images

    public int image() {
        if (!hasBook()) {
            return NONE;
        }
        kept.copyFrom(book);
        return book.allRows();
    }

    public int back() {
        if (kept.tables == 0) {
            return NONE;
        }
        book.copyFrom(kept);
        past.forget();
        return book.allRows();
    }

    public int count(int what) {
        switch (what) {
            case 0: return book.tables;
            case 1: return whereCount;
            case 2: return tape.length;
            case 3: return book.diary.length();
            case 4: return past.size;
            case 5: return trailLength;
            default: return HIDDEN;
        }
    }

    private boolean hasBook() {
        return book.tables > 0;
    }

    private boolean hasTable(int table) {
        return table >= 0 && table < book.tables;
    }

    private boolean hasColumn(int table, int column) {
        return hasTable(table) && column >= 0 && column < COLUMNS;
    }

    private boolean hasCell(int table, int a, int b) {
        return hasTable(table) && book.sheets[table].hasCell(a, b);
    }

    private boolean hasWhere(int where) {
        return where >= 0 && where < whereCount;
    }

    /** The bytes that were fed, and a place in them for those who read. */
    private static final class Tape {
        static final int NO_MORE = 0;

        final int[] bytes = new int[MOST_BYTES];
        int length;
        int at;
        /** Where the latest reading went wrong. */
        int wrong;

        static int bytesIn(int word) {
            int found = 0;
            for (int shift = 0; shift < 32; shift += 8) {
                if (((word >>> shift) & 255) != 0) {
                    found++;
                }
            }
            return found;
        }

        void append(int word) {
            for (int shift = 24; shift >= 0; shift -= 8) {
                int next = (word >>> shift) & 255;
                if (next != 0 && length < MOST_BYTES) {
                    bytes[length] = next;
                    length++;
                }
            }
        }

        void rewind() {
            at = 0;
            wrong = NONE;
        }

        /** The next sign behind blanks; no byte of the tape is 0, so 0 is its end. */
        int peek() {
            while (at < length && bytes[at] == ' ') {
                at++;
            }
            return at < length ? bytes[at] : NO_MORE;
        }

        boolean isDigitNext() {
            return at < length && bytes[at] >= '0' && bytes[at] <= '9';
        }

        boolean fail(int place) {
            wrong = place;
            return false;
        }

        /** NONE if no such number stands here. */
        int readNumber(int mostDigits, int low, int high) {
            peek();
            int digits = 0;
            int number = 0;
            while (digits < mostDigits && isDigitNext()) {
                number = number * 10 + bytes[at] - '0';
                digits++;
                at++;
            }
            if (digits == 0 || isDigitNext()) {
                wrong = at;
                return NONE;
            }
            if (number < low || number > high) {
                wrong = at - 1;
                return NONE;
            }
            return number;
        }
    }

    /** Reads the tape as a book and holds what it told until it is laid out. */
    private static final class BookReader {
        static final int MOST_ROW_CLAUSES = 20;
        static final String LETTERS = "bdqvtabn";
        static final int[] LOW = {1, 0, 1, 2, 0, 0, 0, 1};
        static final int[] HIGH = {8, 99, 999, 16, 2, 15, 15, 40};
        static final int[] USUAL = {3, 20, 999, 8, 0, NONE, NONE, 1};
        /** Where the letters of each sort of clause begin in LETTERS: s, t, r, and the end. */
        static final int OF_RULES = 0;
        static final int OF_TABLE = 3;
        static final int OF_ROWS = 4;
        static final int ALL_ITEMS = 8;
        static final int ROW_ITEMS = ALL_ITEMS - OF_ROWS;

        final int[] items = new int[ALL_ITEMS];
        final int[] values = new int[MOST_TABLES];
        final int[] rowItems = new int[MOST_ROW_CLAUSES * ROW_ITEMS];
        boolean ruled;
        int tables;
        int rowClauses;

        int read(Tape tape) {
            tape.rewind();
            ruled = false;
            tables = 0;
            rowClauses = 0;
            resetItems(OF_RULES, OF_TABLE);
            for (int clause = 0; clause <= MOST_BYTES; clause++) {
                if (!readClause(tape)) {
                    return tape.wrong;
                }
                if (tape.peek() == Tape.NO_MORE) {
                    break;
                }
                tape.at++;
            }
            return fits() ? NONE : tape.length;
        }

        private boolean readClause(Tape tape) {
            int letter = tape.peek();
            if (letter == 's' && !ruled) {
                ruled = true;
                return readItems(tape, OF_RULES, OF_TABLE);
            }
            if (letter == 't' && tables < MOST_TABLES) {
                if (!readItems(tape, OF_TABLE, OF_ROWS)) {
                    return false;
                }
                values[tables] = items[OF_TABLE];
                tables++;
                return true;
            }
            if (letter == 'r' && rowClauses < MOST_ROW_CLAUSES) {
                if (!readItems(tape, OF_ROWS, ALL_ITEMS)) {
                    return false;
                }
                System.arraycopy(items, OF_ROWS, rowItems, rowClauses * ROW_ITEMS, ROW_ITEMS);
                rowClauses++;
                return true;
            }
            return tape.fail(tape.at);
        }

        /** From the clause's own letter up to its end, a semicolon or the tape's end. */
        private boolean readItems(Tape tape, int from, int to) {
            tape.at++;
            resetItems(from, to);
            int seen = 0;
            for (int turn = from; turn <= to; turn++) {
                int sign = tape.peek();
                if (sign == ';' || sign == Tape.NO_MORE) {
                    return true;
                }
                int item = itemOf(sign, from, to);
                if (item == NONE || (seen & (1 << item)) != 0) {
                    return tape.fail(tape.at);
                }
                seen |= 1 << item;
                tape.at++;
                items[item] = tape.readNumber(3, LOW[item], HIGH[item]);
                if (items[item] == NONE) {
                    return false;
                }
            }
            return tape.fail(tape.at);
        }

        private void resetItems(int from, int to) {
            System.arraycopy(USUAL, from, items, from, to - from);
        }

        private static int itemOf(int sign, int from, int to) {
            for (int item = from; item < to; item++) {
                if (LETTERS.charAt(item) == sign) {
                    return item;
                }
            }
            return NONE;
        }

        private boolean fits() {
            for (int i = 0; i < rowClauses; i++) {
                int table = rowItem(i, 0);
                if (table >= tables || rowItem(i, 1) >= values[table] || rowItem(i, 2) >= values[table]) {
                    return false;
                }
            }
            return tables > 0;
        }

        /** Of a clause of rows: 0 the table, 1, 2 what they have in column 0, 1, 3 how many. */
        int rowItem(int clause, int what) {
            return rowItems[clause * ROW_ITEMS + what];
        }
    }

    /** A condition: its units one behind another, each with the number of its term. */
    private static final class Where {
        static final String SIGNS = "=<>?";
        static final int EQUAL = 0;
        static final int BELOW = 1;
        static final int ABOVE = 2;
        static final int IS_MISSING = 3;

        final int[] terms = new int[MOST_UNITS];
        final int[] columns = new int[MOST_UNITS];
        final int[] signs = new int[MOST_UNITS];
        final int[] numbers = new int[MOST_UNITS];
        int size;

        int read(Tape tape) {
            tape.rewind();
            int term = 0;
            for (size = 0; size < MOST_UNITS; size++) {
                if (!readUnit(tape, size)) {
                    return tape.wrong;
                }
                terms[size] = term;
                int sign = tape.peek();
                if (sign == Tape.NO_MORE) {
                    size++;
                    return NONE;
                }
                if (sign != '&' && sign != '|') {
                    return tape.at;
                }
                term += sign == '|' ? 1 : 0;
                tape.at++;
            }
            tape.peek();
            return tape.at;
        }

        private boolean readUnit(Tape tape, int unit) {
            int letter = tape.peek();
            if (letter != 'a' && letter != 'b') {
                return tape.fail(tape.at);
            }
            columns[unit] = letter - 'a';
            tape.at++;
            int sign = tape.peek();
            // A byte above 127 is no sign either: SIGNS holds none such.
            signs[unit] = SIGNS.indexOf((char) sign);
            if (signs[unit] < 0) {
                return tape.fail(tape.at);
            }
            tape.at++;
            numbers[unit] = NONE;
            if (signs[unit] != IS_MISSING) {
                numbers[unit] = tape.readNumber(2, 0, 99);
                return numbers[unit] != NONE;
            }
            return true;
        }

        boolean unitHolds(int unit, int value) {
            if (value == NONE) {
                return signs[unit] == IS_MISSING;
            }
            switch (signs[unit]) {
                case EQUAL: return value == numbers[unit];
                case BELOW: return value < numbers[unit];
                case ABOVE: return value > numbers[unit];
                default: return false;
            }
        }

        boolean holds(int a, int b) {
            boolean termHolds = true;
            for (int unit = 0; unit < size; unit++) {
                if (beginsTerm(unit)) {
                    if (termHolds && unit > 0) {
                        return true;
                    }
                    termHolds = true;
                }
                termHolds = termHolds && unitHolds(unit, columns[unit] == 0 ? a : b);
            }
            return termHolds;
        }

        boolean beginsTerm(int unit) {
            return unit == 0 || terms[unit] != terms[unit - 1];
        }
    }

    /** One column: its counts, and its buckets as they are kept. */
    private static final class Lane {
        static final int FIRSTS = 2;
        static final int TOTALS = FIRSTS + MOST_BUCKETS;
        static final int GREATESTS = TOTALS + MOST_BUCKETS;
        static final int STATE = GREATESTS + MOST_BUCKETS;

        final int[] counts = new int[MOST_VALUES];
        /** Size, drift, firsts, totals, greatests: one row, so that undoing is one copy. */
        final int[] state = new int[STATE];
        int values;
        int missing;

        int size() {
            return state[0];
        }

        int drift() {
            return state[1];
        }

        int firstOf(int i) {
            return state[FIRSTS + i];
        }

        int lastOf(int i) {
            return (i + 1 < state[0] ? state[FIRSTS + i + 1] : values) - 1;
        }

        int widthOf(int i) {
            return lastOf(i) - firstOf(i) + 1;
        }

        int totalOf(int i) {
            return state[TOTALS + i];
        }

        int greatestOf(int i) {
            return state[GREATESTS + i];
        }

        void clear(int ofValues) {
            values = ofValues;
            missing = 0;
            Arrays.fill(counts, 0);
            Arrays.fill(state, 0);
        }

        void copyFrom(Lane other) {
            values = other.values;
            missing = other.missing;
            System.arraycopy(other.counts, 0, counts, 0, MOST_VALUES);
            System.arraycopy(other.state, 0, state, 0, STATE);
        }

        void changeCount(int value, int n) {
            if (value == NONE) {
                missing += n;
            } else {
                counts[value] += n;
            }
        }

        void layAnew(Layout layout, int told) {
            int size = Math.min(told, values);
            layout.solve(this, size);
            state[0] = size;
            state[1] = 0;
            for (int i = 0; i < size; i++) {
                state[FIRSTS + i] = layout.borderOf(size, i);
            }
            for (int i = 0; i < size; i++) {
                weigh(i);
            }
        }

        private void weigh(int i) {
            int total = 0;
            int greatest = 0;
            for (int value = firstOf(i); value <= lastOf(i); value++) {
                total += counts[value];
                greatest = Math.max(greatest, counts[value]);
            }
            state[TOTALS + i] = total;
            state[GREATESTS + i] = greatest;
        }

        /** Keeps the bucket of a value as n rows come, or go (n below 0). */
        void follow(int value, int n) {
            int i = bucketOf(value);
            int total = totalOf(i) + n;
            int greatest = greatestOf(i) + Math.max(n, 0);
            state[TOTALS + i] = total;
            state[GREATESTS + i] = Math.min(greatest, total);
            state[1] += Math.abs(n);
        }

        private int bucketOf(int value) {
            int found = 0;
            for (int i = 1; i < size(); i++) {
                if (firstOf(i) <= value) {
                    found = i;
                }
            }
            return found;
        }

        int greatestOfAll() {
            int greatest = 0;
            for (int i = 0; i < size(); i++) {
                greatest = Math.max(greatest, greatestOf(i));
            }
            return greatest;
        }

        /** 0 for a value that is beyond this column's. */
        int countAt(int value) {
            return value < values ? counts[value] : 0;
        }

        /** NONE if there are more steps than the budget. */
        long joinTruth(Lane other, int budget) {
            int steps = 0;
            long found = 0;
            for (int value = 0; value < values; value++) {
                if (counts[value] > 0) {
                    steps++;
                    if (steps > budget) {
                        return NONE;
                    }
                    found += (long) counts[value] * other.countAt(value);
                }
            }
            return found;
        }

        long joinUpper(Lane other) {
            long found = 0;
            for (int i = 0; i < size(); i++) {
                for (int k = 0; k < other.size(); k++) {
                    long common = commonValues(i, other, k);
                    long greatest = greatestOf(i);
                    long itsGreatest = other.greatestOf(k);
                    if (common > 0) {
                        long byTotals = Math.min(totalOf(i) * itsGreatest, other.totalOf(k) * greatest);
                        found += Math.min(byTotals, common * greatest * itsGreatest);
                    }
                }
            }
            return found;
        }

        long joinEstimate(Lane other) {
            long found = 0;
            for (int i = 0; i < size(); i++) {
                for (int k = 0; k < other.size(); k++) {
                    long common = commonValues(i, other, k);
                    long pairs = (long) widthOf(i) * other.widthOf(k);
                    if (common > 0 && pairs > 0) {
                        found += common * totalOf(i) * other.totalOf(k) / pairs;
                    }
                }
            }
            return found;
        }

        private int commonValues(int i, Lane other, int k) {
            int first = Math.max(firstOf(i), other.firstOf(k));
            int last = Math.min(lastOf(i), other.lastOf(k));
            return Math.max(0, last - first + 1);
        }

        /** The greatest counts of both are paired first; masks of what is taken spare sorted copies. */
        long joinByDegrees(Lane other) {
            int taken = 0;
            int itsTaken = 0;
            long found = 0;
            for (int rank = 0; rank < MOST_VALUES; rank++) {
                int value = richestOutside(taken);
                int itsValue = other.richestOutside(itsTaken);
                if (value == NONE || itsValue == NONE) {
                    break;
                }
                found += (long) counts[value] * other.counts[itsValue];
                taken |= 1 << value;
                itsTaken |= 1 << itsValue;
            }
            return found;
        }

        /** The value with the greatest count of those that are not in the mask; NONE if all are. */
        private int richestOutside(int mask) {
            int found = NONE;
            for (int value = 0; value < values; value++) {
                boolean open = (mask & (1 << value)) == 0;
                if (open && (found == NONE || counts[value] > counts[found])) {
                    found = value;
                }
            }
            return found;
        }
    }

    /** A table: how many rows for each two of what they have, and its two columns. */
    private static final class Sheet {
        final int[] cells = new int[CELLS];
        final Lane[] lanes = {new Lane(), new Lane()};
        int values;
        int rowCount;

        private static int cellOf(int a, int b) {
            return (a + 1) * SIDE + b + 1;
        }

        boolean hasCell(int a, int b) {
            return a >= NONE && a < values && b >= NONE && b < values;
        }

        int alike(int a, int b) {
            return cells[cellOf(a, b)];
        }

        void clear(int ofValues) {
            values = ofValues;
            rowCount = 0;
            Arrays.fill(cells, 0);
            lanes[0].clear(ofValues);
            lanes[1].clear(ofValues);
        }

        void copyFrom(Sheet other) {
            values = other.values;
            rowCount = other.rowCount;
            System.arraycopy(other.cells, 0, cells, 0, CELLS);
            lanes[0].copyFrom(other.lanes[0]);
            lanes[1].copyFrom(other.lanes[1]);
        }

        /** The rows and counts alone; the buckets stay as they are kept. */
        void changeRows(int a, int b, int n) {
            cells[cellOf(a, b)] += n;
            rowCount += n;
            lanes[0].changeCount(a, n);
            lanes[1].changeCount(b, n);
        }

        /** NONE if there are more steps than the budget. */
        long rowsHeldBy(Where where, int budget) {
            int steps = 0;
            long held = 0;
            for (int a = NONE; a < values; a++) {
                for (int b = NONE; b < values; b++) {
                    int rows = alike(a, b);
                    if (rows > 0) {
                        steps++;
                        if (steps > budget) {
                            return NONE;
                        }
                        held += where.holds(a, b) ? rows : 0;
                    }
                }
            }
            return held;
        }

        /** Of the chain with this table in the middle; NONE if there are more steps than the budget. */
        long chainTruth(Lane ahead, Lane behind, int budget) {
            int steps = 0;
            long found = 0;
            for (int a = 0; a < values; a++) {
                for (int b = 0; b < values; b++) {
                    long rows = alike(a, b);
                    if (rows > 0) {
                        steps++;
                        if (steps > budget) {
                            return NONE;
                        }
                        found += rows * ahead.countAt(a) * behind.countAt(b);
                    }
                }
            }
            return found;
        }

        long chainUpper(Lane ahead, Lane behind) {
            long fromAhead = ahead.joinUpper(lanes[0]) * behind.greatestOfAll();
            long fromBehind = lanes[1].joinUpper(behind) * ahead.greatestOfAll();
            return Math.min(fromAhead, fromBehind);
        }

        int mostAlike() {
            int greatest = 0;
            for (int cell = 0; cell < CELLS; cell++) {
                greatest = Math.max(greatest, cells[cell]);
            }
            return greatest;
        }
    }

    /** The least errors of a column, by 1 bucket and more, from each value on. */
    private static final class Layout {
        /** Every number of values, 1 to 16, divides it. */
        static final long SCALE = 720720;

        /** Of the values from one up to ahead of another: row by the one, place by the other. */
        final long[] errors = new long[CELLS];
        /** By j buckets from a value on: row by j, place by the value. */
        final long[] least = new long[CELLS];
        /** Where the second of those buckets begins. */
        final int[] second = new int[CELLS];
        int values;
        int tries;
        int plain;

        /** For k of 1 .. the column's values. */
        void solve(Lane lane, int k) {
            findErrors(lane);
            tries = 0;
            plain = 0;
            for (int v = 0; v < values; v++) {
                least[SIDE + v] = errors[v * SIDE + values];
                tries++;
                plain++;
            }
            for (int j = 2; j <= k; j++) {
                for (int v = 0; v <= values - j; v++) {
                    seek(j, v);
                }
            }
        }

        private void findErrors(Lane lane) {
            values = lane.values;
            for (int from = 0; from < values; from++) {
                long sum = 0;
                long squares = 0;
                for (int width = 1; width <= values - from; width++) {
                    long found = lane.counts[from + width - 1];
                    sum += found;
                    squares += found * found;
                    errors[from * SIDE + from + width] = SCALE * squares - SCALE / width * sum * sum;
                }
            }
        }

        /** An error never falls as values come to it, so no later try is better behind the stop. */
        private void seek(int j, int v) {
            int last = values - j + 1;
            long best = Long.MAX_VALUE;
            int bestSecond = last;
            for (int e = v + 1; e <= last; e++) {
                long ahead = errors[v * SIDE + e];
                long sum = ahead + least[(j - 1) * SIDE + e];
                tries++;
                if (sum < best) {
                    best = sum;
                    bestSecond = e;
                }
                if (ahead >= best) {
                    break;
                }
            }
            plain += last - v;
            least[j * SIDE + v] = best;
            second[j * SIDE + v] = bestSecond;
        }

        long leastBy(int k) {
            return least[k * SIDE];
        }

        int borderOf(int k, int i) {
            int first = 0;
            for (int passed = 0; passed < i; passed++) {
                first = second[(k - passed) * SIDE + first];
            }
            return first;
        }

        int worstOf(Lane lane) {
            findErrors(lane);
            int worst = 0;
            long greatest = NONE;
            for (int i = 0; i < lane.size(); i++) {
                long found = errors[lane.firstOf(i) * SIDE + lane.lastOf(i) + 1];
                if (found > greatest) {
                    greatest = found;
                    worst = i;
                }
            }
            return worst;
        }
    }

    /** From where to where a condition holds, by the buckets alone. */
    private static final class Bounds {
        int lower;
        int upper;
        int estimate;
        private int unitLower;
        private int unitUpper;
        private int unitEstimate;
        private int termLower;
        private int termUpper;
        private int termEstimate;

        int spread(Where where, Sheet sheet, Lane first, Lane second) {
            find(where, sheet, first, second);
            return upper - lower;
        }

        /** The lanes are the sheet's own, or what they would be, were they built. */
        void find(Where where, Sheet sheet, Lane first, Lane second) {
            lower = 0;
            upper = 0;
            estimate = 0;
            for (int unit = 0; unit < where.size; unit++) {
                findUnit(where, unit, where.columns[unit] == 0 ? first : second);
                if (where.beginsTerm(unit)) {
                    termLower = unitLower;
                    termUpper = unitUpper;
                    termEstimate = unitEstimate;
                } else {
                    termLower += unitLower - sheet.rowCount;
                    termUpper = Math.min(termUpper, unitUpper);
                    termEstimate = Math.min(termEstimate, unitEstimate);
                }
                if (unit + 1 == where.size || where.beginsTerm(unit + 1)) {
                    lower = Math.max(lower, termLower);
                    upper += termUpper;
                    estimate += termEstimate;
                }
            }
            upper = Math.min(upper, sheet.rowCount);
            estimate = Math.min(estimate, sheet.rowCount);
        }

        private void findUnit(Where where, int unit, Lane lane) {
            if (where.signs[unit] == Where.IS_MISSING) {
                unitLower = lane.missing;
                unitUpper = lane.missing;
                unitEstimate = lane.missing;
                return;
            }
            unitLower = 0;
            unitUpper = 0;
            unitEstimate = 0;
            for (int i = 0; i < lane.size(); i++) {
                addBucket(lane, i, heldIn(where, unit, lane, i));
            }
        }

        private static int heldIn(Where where, int unit, Lane lane, int i) {
            int held = 0;
            for (int value = lane.firstOf(i); value <= lane.lastOf(i); value++) {
                held += where.unitHolds(unit, value) ? 1 : 0;
            }
            return held;
        }

        private void addBucket(Lane lane, int i, int held) {
            int width = lane.widthOf(i);
            if (held == 0 || width < 1) {
                return;
            }
            int total = lane.totalOf(i);
            int greatest = lane.greatestOf(i);
            unitLower += Math.max(0, total - greatest * (width - held));
            unitUpper += Math.min(total, greatest * held);
            unitEstimate += total * held / width;
        }
    }

    /** The latest acts. It holds more than it shows, so that undoing brings back what had gone. */
    private static final class Diary {
        static final int PARTS = 3;
        static final int SHOWN = 60;
        static final int HELD = SHOWN + Past.MOST;

        final int[] entries = new int[HELD * PARTS];
        int written;

        int length() {
            return Math.min(written, SHOWN);
        }

        void note(int sort, int table, int number) {
            int at = Math.floorMod(written, HELD) * PARTS;
            entries[at] = sort;
            entries[at + 1] = table;
            entries[at + 2] = number;
            written++;
        }

        void eraseLatest() {
            if (written > 0) {
                written--;
            }
        }

        /** The i-th of the latest, 0 the latest. */
        int read(int i, int part) {
            return entries[Math.floorMod(written - 1 - i, HELD) * PARTS + part];
        }

        void copyFrom(Diary other) {
            written = other.written;
            System.arraycopy(other.entries, 0, entries, 0, entries.length);
        }
    }

    /** The tables as they are now, the rules, the log: all that an image keeps. */
    private static final class Book {
        final Sheet[] sheets = {new Sheet(), new Sheet(), new Sheet()};
        final Diary diary = new Diary();
        /** 0: there is no book. */
        int tables;
        int buckets;
        int drift;
        int budget;

        void tell(BookReader told, Layout layout) {
            tables = told.tables;
            buckets = told.items[0];
            drift = told.items[1];
            budget = told.items[2];
            diary.written = 0;
            for (int i = 0; i < tables; i++) {
                sheets[i].clear(told.values[i]);
            }
            for (int i = 0; i < told.rowClauses; i++) {
                Sheet sheet = sheets[told.rowItem(i, 0)];
                sheet.changeRows(told.rowItem(i, 1), told.rowItem(i, 2), told.rowItem(i, 3));
            }
            for (int i = 0; i < tables; i++) {
                sheets[i].lanes[0].layAnew(layout, buckets);
                sheets[i].lanes[1].layAnew(layout, buckets);
            }
        }

        void copyFrom(Book other) {
            tables = other.tables;
            buckets = other.buckets;
            drift = other.drift;
            budget = other.budget;
            diary.copyFrom(other.diary);
            for (int i = 0; i < tables; i++) {
                sheets[i].copyFrom(other.sheets[i]);
            }
        }

        /** n rows come, or go (n below 0); a column that has drifted too far is laid anew. */
        void changeRows(Sheet sheet, int a, int b, int n, Layout layout) {
            sheet.changeRows(a, b, n);
            for (int column = 0; column < COLUMNS; column++) {
                Lane lane = sheet.lanes[column];
                int value = column == 0 ? a : b;
                if (value != NONE) {
                    lane.follow(value, n);
                    if (lane.drift() > drift) {
                        lane.layAnew(layout, buckets);
                    }
                }
            }
        }

        int allRows() {
            int all = 0;
            for (int i = 0; i < tables; i++) {
                all += sheets[i].rowCount;
            }
            return all;
        }

        int tableWithMostRows() {
            int found = 0;
            for (int i = 1; i < tables; i++) {
                if (sheets[i].rowCount > sheets[found].rowCount) {
                    found = i;
                }
            }
            return found;
        }

        int columnDriftedMost() {
            int found = 0;
            int greatest = NONE;
            for (int i = 0; i < tables; i++) {
                for (int column = 0; column < COLUMNS; column++) {
                    int drifted = sheets[i].lanes[column].drift();
                    if (drifted > greatest) {
                        greatest = drifted;
                        found = 10 * i + column;
                    }
                }
            }
            return found;
        }

        int greatestTotal() {
            int greatest = 0;
            for (int i = 0; i < tables; i++) {
                for (int column = 0; column < COLUMNS; column++) {
                    Lane lane = sheets[i].lanes[column];
                    for (int bucket = 0; bucket < lane.size(); bucket++) {
                        greatest = Math.max(greatest, lane.totalOf(bucket));
                    }
                }
            }
            return greatest;
        }

        int mostAlike() {
            int greatest = 0;
            for (int i = 0; i < tables; i++) {
                greatest = Math.max(greatest, sheets[i].mostAlike());
            }
            return greatest;
        }

        /** Values are gone through ahead of columns, so the lowest of like ones is met first. */
        int valueSeenMost() {
            int found = 0;
            int greatest = NONE;
            for (int value = 0; value < MOST_VALUES; value++) {
                for (int i = 0; i < tables; i++) {
                    for (int column = 0; column < COLUMNS; column++) {
                        int seen = sheets[i].lanes[column].countAt(value);
                        if (seen > greatest) {
                            greatest = seen;
                            found = value;
                        }
                    }
                }
            }
            return found;
        }
    }

    /** What the latest acts were made of, so that they can be undone: a page for each. */
    private static final class Past {
        static final int MOST = 40;
        static final int TABLE = 0;
        static final int BUDGET = 1;
        static final int CHANGES = 2;
        /** Two changes of rows at most: what they have in column 0, 1, how many came (below 0: went). */
        static final int CHANGED = 3;
        static final int CHANGE_PARTS = 3;
        static final int MOST_CHANGES = 2;
        static final int LANES = CHANGED + MOST_CHANGES * CHANGE_PARTS;
        static final int PAGE = LANES + COLUMNS * Lane.STATE;
        static final int ALL_PAGES = MOST * PAGE;

        final int[] pages = new int[ALL_PAGES];
        int size;
        /** Where the latest page begins. */
        private int latest;

        void forget() {
            size = 0;
        }

        /** Ahead of an act: what is kept of the table (NONE: of none) and the budget are written down. */
        void open(Book book, int table) {
            latest = (latest + PAGE) % ALL_PAGES;
            size = Math.min(size + 1, MOST);
            pages[latest + TABLE] = table;
            pages[latest + BUDGET] = book.budget;
            pages[latest + CHANGES] = 0;
            for (int column = 0; column < COLUMNS && table != NONE; column++) {
                int[] state = book.sheets[table].lanes[column].state;
                System.arraycopy(state, 0, pages, latest + LANES + column * Lane.STATE, Lane.STATE);
            }
        }

        void noteRows(int a, int b, int n) {
            int before = pages[latest + CHANGES];
            if (before < MOST_CHANGES) {
                int at = latest + CHANGED + before * CHANGE_PARTS;
                pages[at] = a;
                pages[at + 1] = b;
                pages[at + 2] = n;
                pages[latest + CHANGES] = before + 1;
            }
        }

        void undoLatest(Book book) {
            if (size == 0) {
                return;
            }
            int table = pages[latest + TABLE];
            book.budget = pages[latest + BUDGET];
            book.diary.eraseLatest();
            if (table != NONE) {
                restore(book.sheets[table]);
            }
            latest = (latest + ALL_PAGES - PAGE) % ALL_PAGES;
            size--;
        }

        private void restore(Sheet sheet) {
            for (int i = 0; i < pages[latest + CHANGES]; i++) {
                int at = latest + CHANGED + i * CHANGE_PARTS;
                sheet.changeRows(pages[at], pages[at + 1], -pages[at + 2]);
            }
            for (int column = 0; column < COLUMNS; column++) {
                int from = latest + LANES + column * Lane.STATE;
                System.arraycopy(pages, from, sheet.lanes[column].state, 0, Lane.STATE);
            }
        }
    }
}
