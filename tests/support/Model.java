import java.util.ArrayList;
import java.util.Arrays;
import java.util.Collections;
import java.util.List;
import java.util.NoSuchElementException;

/**
 * The document written a second time, plainly and slowly, to compare with: rows one by one in a list,
 * every way to lay buckets gone through, whole copies for what can be undone.
 */
final class Model {
    static final int NONE = -1;
    static final int HIDDEN = -1000000;

    static final class Bucket {
        int first;
        int last;
        int total;
        int greatest;

        Bucket copy() {
            Bucket b = new Bucket();
            b.first = first;
            b.last = last;
            b.total = total;
            b.greatest = greatest;
            return b;
        }
    }

    static final class Table {
        int values;
        List<int[]> rows = new ArrayList<>();
        List<List<Bucket>> buckets = new ArrayList<>(List.of(new ArrayList<>(), new ArrayList<>()));
        int[] drift = new int[2];

        Table copy() {
            Table t = new Table();
            t.values = values;
            t.rows = new ArrayList<>(rows);
            for (int c = 0; c < 2; c++) {
                for (Bucket b : buckets.get(c)) {
                    t.buckets.get(c).add(b.copy());
                }
            }
            t.drift = drift.clone();
            return t;
        }

        int alike(int a, int b) {
            int n = 0;
            for (int[] row : rows) {
                n += row[0] == a && row[1] == b ? 1 : 0;
            }
            return n;
        }

        int count(int column, int value) {
            int n = 0;
            for (int[] row : rows) {
                n += row[column] == value ? 1 : 0;
            }
            return n;
        }
    }

    static final class State {
        List<Table> tables = new ArrayList<>();
        int budget;
        List<int[]> log = new ArrayList<>();

        State copy() {
            State s = new State();
            for (Table t : tables) {
                s.tables.add(t.copy());
            }
            s.budget = budget;
            s.log = new ArrayList<>(log);
            return s;
        }

        int all() {
            int n = 0;
            for (Table t : tables) {
                n += t.rows.size();
            }
            return n;
        }
    }

    private final StringBuilder tape = new StringBuilder();
    private State now = new State();
    private int told;
    private int toldDrift;
    private final List<State> before = new ArrayList<>();
    private State image = null;
    private final List<List<int[]>> wheres = new ArrayList<>();
    private final int[] status = new int[5];
    private List<Integer> trace = new ArrayList<>();

    // ---- tape

    int feed(int... words) {
        StringBuilder more = new StringBuilder();
        for (int w : words) {
            for (int part : new int[] {w >>> 24, w >>> 16 & 255, w >>> 8 & 255, w & 255}) {
                if (part != 0) {
                    more.append((char) part);
                }
            }
        }
        if (tape.length() + more.length() > 240) {
            return NONE;
        }
        tape.append(more);
        return tape.length();
    }

    boolean end(int n) {
        if (n < 0 || n > tape.length()) {
            return false;
        }
        tape.setLength(n);
        return true;
    }

    int fault(int sort) {
        if (sort != 0 && sort != 1) {
            return -2;
        }
        return sort == 0 ? bookFault(tape.toString(), new ArrayList<>()) : whereFault(tape.toString(), new ArrayList<>());
    }

    /** Tokens {place of its last byte, kind, number}: kind is the sign itself, or '0' for a run of digits. */
    private static List<int[]> tokens(String s) {
        List<int[]> out = new ArrayList<>();
        for (int i = 0; i < s.length(); i++) {
            char c = s.charAt(i);
            if (c == ' ') {
                continue;
            }
            if (c < '0' || c > '9') {
                out.add(new int[] {i, c, 0, 1});
                continue;
            }
            int from = i;
            while (i + 1 < s.length() && s.charAt(i + 1) >= '0' && s.charAt(i + 1) <= '9') {
                i++;
            }
            String digits = s.substring(from, i + 1);
            int number = digits.length() > 6 ? 999999 : Integer.parseInt(digits);
            out.add(new int[] {from, '0', number, digits.length()});
        }
        return out;
    }

    /** Where a run of digits is wrong; NONE if it is not. */
    private static int numberFault(int[] token, int most, int low, int high) {
        if (token[1] != '0') {
            return token[0];
        }
        if (token[3] > most) {
            return token[0] + most;
        }
        return token[2] < low || token[2] > high ? token[0] + token[3] - 1 : NONE;
    }

    /** Clauses {kind, item 0, item 1 ..} go to the list. */
    private static int bookFault(String s, List<int[]> clauses) {
        List<int[]> t = tokens(s);
        String[] letters = {"bdq", "v", "tabn"};
        int[][] usual = {{3, 20, 999}, {8}, {0, NONE, NONE, 1}};
        int[][] low = {{1, 0, 1}, {2}, {0, 0, 0, 1}};
        int[][] high = {{8, 99, 999}, {16}, {2, 15, 15, 40}};
        int[] allowed = {1, 3, 20};
        int[] clause = null;
        boolean[] had = null;
        int item = NONE;
        for (int[] token : t) {
            if (clause == null) {
                int kind = "str".indexOf(token[1]);
                if (kind < 0 || allowed[kind] == 0) {
                    return token[0];
                }
                allowed[kind]--;
                clause = new int[1 + usual[kind].length];
                clause[0] = kind;
                System.arraycopy(usual[kind], 0, clause, 1, usual[kind].length);
                had = new boolean[4];
            } else if (item != NONE) {
                int f = numberFault(token, 3, low[clause[0]][item], high[clause[0]][item]);
                if (f != NONE) {
                    return f;
                }
                clause[1 + item] = token[2];
                item = NONE;
            } else if (token[1] == ';') {
                clauses.add(clause);
                clause = null;
            } else {
                item = token[1] == '0' ? NONE : letters[clause[0]].indexOf(token[1]);
                if (item < 0 || had[item]) {
                    return token[0];
                }
                had[item] = true;
            }
        }
        if (clause == null || item != NONE) {
            return s.length();
        }
        clauses.add(clause);
        List<Integer> values = new ArrayList<>();
        for (int[] c : clauses) {
            if (c[0] == 1) {
                values.add(c[1]);
            }
        }
        boolean fine = !values.isEmpty();
        for (int[] c : clauses) {
            if (c[0] == 2) {
                fine = fine && c[1] < values.size() && c[2] < values.get(c[1]) && c[3] < values.get(c[1]);
            }
        }
        return fine ? NONE : s.length();
    }

    /** Units {term, column, sign, number} go to the list. */
    private static int whereFault(String s, List<int[]> units) {
        int term = 0;
        int[] unit = null;
        boolean wantsUnit = true;
        boolean wantsSign = false;
        for (int[] token : tokens(s)) {
            if (wantsUnit) {
                if (token[1] != 'a' && token[1] != 'b' || units.size() == 6) {
                    return token[0];
                }
                unit = new int[] {term, token[1] - 'a', NONE, NONE};
                wantsUnit = false;
                wantsSign = true;
            } else if (wantsSign) {
                unit[2] = token[1] == '0' ? NONE : "=<>?".indexOf(token[1]);
                if (unit[2] < 0) {
                    return token[0];
                }
                wantsSign = false;
                if (unit[2] == 3) {
                    units.add(unit);
                    unit = null;
                }
            } else if (unit != null) {
                int f = numberFault(token, 2, 0, 99);
                if (f != NONE) {
                    return f;
                }
                unit[3] = token[2];
                units.add(unit);
                unit = null;
            } else if (token[1] == '&' || token[1] == '|') {
                term += token[1] == '|' ? 1 : 0;
                wantsUnit = true;
            } else {
                return token[0];
            }
        }
        return wantsUnit || wantsSign || unit != null ? s.length() : NONE;
    }

    int text(int sort) {
        if (sort == 1) {
            List<int[]> units = new ArrayList<>();
            if (whereFault(tape.toString(), units) != NONE || wheres.size() == 4) {
                return NONE;
            }
            wheres.add(units);
            tape.setLength(0);
            return wheres.size() - 1;
        }
        List<int[]> clauses = new ArrayList<>();
        if (sort != 0 || bookFault(tape.toString(), clauses) != NONE) {
            return NONE;
        }
        tape.setLength(0);
        now = new State();
        before.clear();
        image = null;
        told = 3;
        toldDrift = 20;
        now.budget = 999;
        for (int[] c : clauses) {
            if (c[0] == 0) {
                told = c[1];
                toldDrift = c[2];
                now.budget = c[3];
            } else if (c[0] == 1) {
                Table t = new Table();
                t.values = c[1];
                now.tables.add(t);
            }
        }
        for (int[] c : clauses) {
            for (int i = 0; c[0] == 2 && i < c[4]; i++) {
                now.tables.get(c[1]).rows.add(new int[] {c[2], c[3]});
            }
        }
        for (Table t : now.tables) {
            lay(t, 0);
            lay(t, 1);
        }
        return now.tables.size();
    }

    // ---- errors and buckets

    private static long errorOf(Table t, int column, int from, int to) {
        long sum = 0;
        long squares = 0;
        for (int v = from; v < to; v++) {
            long c = t.count(column, v);
            sum += c;
            squares += c * c;
        }
        return 720720L * squares - 720720L * sum * sum / (to - from);
    }

    private static long[][] errors(Table t, int column) {
        long[][] e = new long[t.values + 1][t.values + 1];
        for (int from = 0; from < t.values; from++) {
            for (int to = from + 1; to <= t.values; to++) {
                e[from][to] = errorOf(t, column, from, to);
            }
        }
        return e;
    }

    /** The best of all ways, the borders' lowest first; what it costs at the end. */
    private static long[] bestWay(Table t, int column, int k) {
        long[] best = new long[k + 1];
        best[k] = Long.MAX_VALUE;
        goThrough(errors(t, column), t.values, new int[k], 0, 0, best);
        return best;
    }

    private static void goThrough(long[][] e, int values, int[] firsts, int i, long cost, long[] best) {
        int k = firsts.length;
        if (i + 1 == k) {
            long whole = cost + e[firsts[i]][values];
            if (whole < best[k]) {
                best[k] = whole;
                for (int b = 0; b < k; b++) {
                    best[b] = firsts[b];
                }
            }
            return;
        }
        for (int next = firsts[i] + 1; next <= values - (k - i - 1); next++) {
            firsts[i + 1] = next;
            goThrough(e, values, firsts, i + 1, cost + e[firsts[i]][next], best);
        }
    }

    private void lay(Table t, int column) {
        int k = Math.min(told, t.values);
        long[] way = bestWay(t, column, k);
        List<Bucket> out = new ArrayList<>();
        for (int i = 0; i < k; i++) {
            Bucket b = new Bucket();
            b.first = (int) way[i];
            b.last = i + 1 < k ? (int) way[i + 1] - 1 : t.values - 1;
            for (int v = b.first; v <= b.last; v++) {
                b.total += t.count(column, v);
                b.greatest = Math.max(b.greatest, t.count(column, v));
            }
            out.add(b);
        }
        t.buckets.set(column, out);
        t.drift[column] = 0;
    }

    private static int tries(Table t, int column, int k, boolean stops) {
        int n = 0;
        long[][] e = errors(t, column);
        long[] shorter = null;
        for (int j = 1; j <= k; j++) {
            long[] least = new long[t.values + 1];
            for (int v = 0; v <= t.values - j; v++) {
                if (j == 1) {
                    n++;
                    least[v] = e[v][t.values];
                    continue;
                }
                least[v] = Long.MAX_VALUE;
                for (int to = v + 1; to <= t.values - j + 1; to++) {
                    n++;
                    least[v] = Math.min(least[v], e[v][to] + shorter[to]);
                    if (stops && e[v][to] >= least[v]) {
                        break;
                    }
                }
            }
            shorter = least;
        }
        return n;
    }

    // ---- what there is

    private Table tableOf(int i) {
        return i >= 0 && i < now.tables.size() ? now.tables.get(i) : null;
    }

    private static boolean in(int x, int low, int high) {
        return x >= low && x <= high;
    }

    private static boolean pair(Table t, int a, int b) {
        return t != null && in(a, -1, t.values - 1) && in(b, -1, t.values - 1);
    }

    int rule(int what) {
        if (now.tables.isEmpty() || !in(what, 0, 2)) {
            return NONE;
        }
        return new int[] {told, toldDrift, now.budget}[what];
    }

    int table(int table, int what) {
        Table t = tableOf(table);
        if (t == null || !in(what, 0, 3)) {
            throw new NoSuchElementException();
        }
        return what == 0 ? t.values : what == 1 ? t.rows.size() : t.count(what - 2, NONE);
    }

    int rows(int table, int a, int b) {
        return pair(tableOf(table), a, b) ? tableOf(table).alike(a, b) : NONE;
    }

    int countOf(int table, int column, int value) {
        Table t = tableOf(table);
        return t == null || !in(column, 0, 1) || !in(value, 0, t.values - 1) ? NONE : t.count(column, value);
    }

    int bucket(int table, int column, int i, int what) {
        Table t = tableOf(table);
        if (t == null || !in(column, 0, 1) || !in(i, 0, t.buckets.get(column).size() - 1) || !in(what, 0, 3)) {
            return HIDDEN;
        }
        Bucket b = t.buckets.get(column).get(i);
        return new int[] {b.first, b.last, b.total, b.greatest}[what];
    }

    int column(int table, int column, int what) {
        Table t = tableOf(table);
        if (t == null || !in(column, 0, 1) || !in(what, 0, 3)) {
            return NONE;
        }
        List<Bucket> buckets = t.buckets.get(column);
        if (what == 2) {
            List<Long> costs = new ArrayList<>();
            for (Bucket b : buckets) {
                costs.add(errorOf(t, column, b.first, b.last + 1));
            }
            return costs.indexOf(Collections.max(costs));
        }
        return what == 0 ? buckets.size() : what == 1 ? t.drift[column] : toldDrift - t.drift[column];
    }

    private boolean lays(int table, int column, int k) {
        Table t = tableOf(table);
        return t != null && in(column, 0, 1) && in(k, 1, t.values);
    }

    long error(int table, int column, int k) {
        return lays(table, column, k) ? bestWay(tableOf(table), column, k)[k] : NONE;
    }

    int border(int table, int column, int k, int i) {
        return lays(table, column, k) && in(i, 0, k - 1) ? (int) bestWay(tableOf(table), column, k)[i] : NONE;
    }

    int tried(int table, int column, int k, int what) {
        return lays(table, column, k) && in(what, 0, 1) ? tries(tableOf(table), column, k, what == 0) : NONE;
    }

    int fewest(int table, int column, long error) {
        if (!lays(table, column, 1) || error < 0) {
            return NONE;
        }
        int k = 1;
        while (error(table, column, k) > error) {
            k++;
        }
        return k;
    }

    // ---- acts

    private int refuse(int why) {
        status[why]++;
        return NONE;
    }

    private void act(int sort, int table, int number) {
        before.add(now.copy());
        if (before.size() > 40) {
            before.remove(0);
        }
        now.log.add(0, new int[] {sort, table, number});
        while (now.log.size() > 60) {
            now.log.remove(60);
        }
    }

    private void come(Table t, int a, int b, int n) {
        for (int i = 0; i < n; i++) {
            t.rows.add(new int[] {a, b});
        }
        drifted(t, a, b, n, true);
    }

    private void go(Table t, int a, int b, int n) {
        int left = n;
        for (int i = t.rows.size() - 1; i >= 0 && left > 0; i--) {
            if (t.rows.get(i)[0] == a && t.rows.get(i)[1] == b) {
                t.rows.remove(i);
                left--;
            }
        }
        drifted(t, a, b, n, false);
    }

    private void drifted(Table t, int a, int b, int n, boolean more) {
        int[] value = {a, b};
        for (int c = 0; c < 2; c++) {
            for (Bucket k : t.buckets.get(c)) {
                if (value[c] >= k.first && value[c] <= k.last) {
                    k.total += more ? n : -n;
                    k.greatest += more ? n : 0;
                    k.greatest = k.greatest > k.total ? k.total : k.greatest;
                }
            }
            t.drift[c] += value[c] == NONE ? 0 : n;
        }
        for (int c = 0; c < 2; c++) {
            if (t.drift[c] > toldDrift) {
                lay(t, c);
            }
        }
    }

    int add(int table, int a, int b, int n) {
        Table t = tableOf(table);
        if (!pair(t, a, b)) {
            return refuse(0);
        }
        if (!in(n, 1, 99)) {
            return refuse(1);
        }
        if (t.rows.size() + n > 999) {
            return refuse(3);
        }
        act(0, table, n);
        come(t, a, b, n);
        return t.rows.size();
    }

    int drop(int table, int a, int b, int n) {
        Table t = tableOf(table);
        if (!pair(t, a, b)) {
            return refuse(0);
        }
        if (!in(n, 1, 99)) {
            return refuse(1);
        }
        if (t.alike(a, b) < n) {
            return refuse(3);
        }
        act(1, table, n);
        go(t, a, b, n);
        return t.rows.size();
    }

    int move(int table, int a, int b, int c, int d) {
        Table t = tableOf(table);
        if (!pair(t, a, b) || !pair(t, c, d)) {
            return refuse(0);
        }
        if (a == c && b == d) {
            return refuse(2);
        }
        if (t.alike(a, b) == 0) {
            return refuse(3);
        }
        act(2, table, 1);
        go(t, a, b, 1);
        come(t, c, d, 1);
        return t.alike(c, d);
    }

    int build(int table, int column) {
        Table t = tableOf(table);
        if (t == null || !in(column, 0, 1)) {
            return refuse(0);
        }
        if (t.drift[column] == 0) {
            return refuse(2);
        }
        act(3, table, column);
        lay(t, column);
        return t.buckets.get(column).size();
    }

    int budget(int n) {
        if (now.tables.isEmpty()) {
            return refuse(0);
        }
        if (!in(n, 1, 999)) {
            return refuse(1);
        }
        if (n == now.budget) {
            return refuse(2);
        }
        int was = now.budget;
        act(4, NONE, n);
        now.budget = n;
        return was;
    }

    int years(int n, long seed) {
        if (now.tables.isEmpty() || !in(n, 1, 40)) {
            return NONE;
        }
        int[] status0 = status.clone();
        long[] x = {seed};
        for (int i = 0; i < n; i++) {
            int sort = draw(x, 4);
            int table = draw(x, now.tables.size());
            int values = tableOf(table).values;
            if (sort == 3) {
                build(table, draw(x, 2));
                continue;
            }
            int a = draw(x, values + 1);
            int b = draw(x, values + 1);
            int many = draw(x, 5) + 1;
            a = a == values ? NONE : a;
            b = b == values ? NONE : b;
            if (sort == 2) {
                drop(table, a, b, many);
            } else {
                add(table, a, b, many);
            }
        }
        System.arraycopy(status0, 0, status, 0, 5);
        return now.all();
    }

    private static int draw(long[] x, int of) {
        x[0] = x[0] * 6364136223846793005L + 1442695040888963407L;
        return (int) ((x[0] >>> 33) % of);
    }

    int status(int what) {
        return in(what, 0, 4) ? status[what] : NONE;
    }

    int undo() {
        if (before.isEmpty()) {
            return NONE;
        }
        now = before.remove(before.size() - 1);
        return before.size();
    }

    int log(int i, int what) {
        return in(i, 0, now.log.size() - 1) && in(what, 0, 2) ? now.log.get(i)[what] : HIDDEN;
    }

    // ---- looks and bounds

    private static boolean unitHolds(int[] u, int value) {
        if (u[2] == 3) {
            return value == NONE;
        }
        return value != NONE && (u[2] == 0 ? value == u[3] : u[2] == 1 ? value < u[3] : value > u[3]);
    }

    private static List<List<int[]>> termsOf(List<int[]> where) {
        List<List<int[]>> terms = new ArrayList<>();
        for (int[] u : where) {
            while (terms.size() <= u[0]) {
                terms.add(new ArrayList<>());
            }
            terms.get(u[0]).add(u);
        }
        return terms;
    }

    private static boolean holds(List<int[]> where, int[] row) {
        boolean any = false;
        for (List<int[]> term : termsOf(where)) {
            boolean all = true;
            for (int[] u : term) {
                all = all && unitHolds(u, row[u[1]]);
            }
            any = any || all;
        }
        return any;
    }

    private static int held(Table t, List<int[]> where) {
        int n = 0;
        for (int[] row : t.rows) {
            n += holds(where, row) ? 1 : 0;
        }
        return n;
    }

    private static int differentPairs(Table t, boolean valuesOnly) {
        List<Integer> seen = new ArrayList<>();
        for (int[] row : t.rows) {
            int key = row[0] * 100 + row[1];
            if (!seen.contains(key) && !(valuesOnly && (row[0] == NONE || row[1] == NONE))) {
                seen.add(key);
            }
        }
        return seen.size();
    }

    private long look(int steps, long answer, int... tables) {
        trace = new ArrayList<>();
        for (int t : tables) {
            trace.add(t);
        }
        for (int i = tables.length - 1; i >= 0; i--) {
            trace.add(10 + tables[i]);
        }
        return steps > now.budget ? refuse(4) : answer;
    }

    /** Lower, upper, estimate. */
    private static int[] boundsOf(Table t, List<int[]> where) {
        int rows = t.rows.size();
        int[] out = new int[3];
        for (List<int[]> term : termsOf(where)) {
            int low = -rows * (term.size() - 1);
            int up = Integer.MAX_VALUE;
            int guess = Integer.MAX_VALUE;
            for (int[] u : term) {
                int[] b = unitBounds(t, u);
                low += b[0];
                up = Math.min(up, b[1]);
                guess = Math.min(guess, b[2]);
            }
            out[0] = Math.max(out[0], low);
            out[1] += up;
            out[2] += guess;
        }
        out[1] = Math.min(out[1], rows);
        out[2] = Math.min(out[2], rows);
        return out;
    }

    private static int[] unitBounds(Table t, int[] u) {
        if (u[2] == 3) {
            int n = t.count(u[1], NONE);
            return new int[] {n, n, n};
        }
        int[] out = new int[3];
        for (Bucket b : t.buckets.get(u[1])) {
            int width = b.last - b.first + 1;
            int w = 0;
            for (int v = b.first; v <= b.last; v++) {
                w += unitHolds(u, v) ? 1 : 0;
            }
            if (w > 0) {
                out[0] += w == width ? b.total : Math.max(0, b.total - b.greatest * (width - w));
                out[1] += Math.min(b.greatest * w, b.total);
                out[2] += b.total * w / width;
            }
        }
        return out;
    }

    private List<int[]> whereOf(int i) {
        return i >= 0 && i < wheres.size() ? wheres.get(i) : null;
    }

    int where(int table, int where, int what) {
        Table t = tableOf(table);
        List<int[]> w = whereOf(where);
        if (t == null || w == null || !in(what, 0, 3)) {
            return NONE;
        }
        if (what == 0) {
            return (int) look(differentPairs(t, false), held(t, w), table);
        }
        return boundsOf(t, w)[what - 1];
    }

    long join(int table, int column, int other, int itsColumn, int what) {
        Table t = tableOf(table);
        Table o = tableOf(other);
        if (t == null || o == null || !in(column, 0, 1) || !in(itsColumn, 0, 1) || !in(what, 0, 3)) {
            return NONE;
        }
        if (what == 0) {
            int steps = 0;
            long n = 0;
            for (int v = 0; v < t.values; v++) {
                steps += t.count(column, v) > 0 ? 1 : 0;
                n += (long) t.count(column, v) * o.count(itsColumn, v);
            }
            return look(steps, n, table, other);
        }
        return what == 2 ? byDegrees(t, column, o, itsColumn) : joinBound(t, column, o, itsColumn, what == 1);
    }

    private static long byDegrees(Table t, int column, Table o, int itsColumn) {
        int[] one = new int[16];
        int[] two = new int[16];
        for (int v = 0; v < 16; v++) {
            one[v] = t.count(column, v);
            two[v] = o.count(itsColumn, v);
        }
        Arrays.sort(one);
        Arrays.sort(two);
        long n = 0;
        for (int i = 0; i < 16; i++) {
            n += (long) one[i] * two[i];
        }
        return n;
    }

    private static long joinBound(Table t, int column, Table o, int itsColumn, boolean upper) {
        long n = 0;
        for (Bucket x : t.buckets.get(column)) {
            for (Bucket y : o.buckets.get(itsColumn)) {
                long w = 0;
                for (int v = x.first; v <= x.last; v++) {
                    w += v >= y.first && v <= y.last ? 1 : 0;
                }
                if (w == 0) {
                    continue;
                }
                if (upper) {
                    long a = (long) x.total * y.greatest;
                    long b = (long) y.total * x.greatest;
                    n += Math.min(Math.min(a, b), w * x.greatest * y.greatest);
                } else {
                    n += w * x.total * y.total / ((x.last - x.first + 1) * (y.last - y.first + 1));
                }
            }
        }
        return n;
    }

    private static long greatest(Table t, int column) {
        long g = 0;
        for (Bucket b : t.buckets.get(column)) {
            g = Math.max(g, b.greatest);
        }
        return g;
    }

    long chain(int what) {
        if (now.tables.size() < 3 || !in(what, 0, 1)) {
            return NONE;
        }
        Table a = tableOf(0);
        Table b = tableOf(1);
        Table c = tableOf(2);
        if (what == 1) {
            long x = joinBound(a, 1, b, 0, true) * greatest(c, 0);
            long y = joinBound(b, 1, c, 0, true) * greatest(a, 1);
            return Math.min(x, y);
        }
        long n = 0;
        for (int[] row : b.rows) {
            if (row[0] != NONE && row[1] != NONE) {
                n += (long) a.count(1, row[0]) * c.count(0, row[1]);
            }
        }
        return look(differentPairs(b, true), n, 0, 1, 2);
    }

    int trace(int i) {
        return in(i, 0, trace.size() - 1) ? trace.get(i) : NONE;
    }

    int narrow(int table, int where, int what) {
        Table t = tableOf(table);
        List<int[]> w = whereOf(where);
        if (t == null || w == null || !in(what, 0, 1)) {
            return HIDDEN;
        }
        int best = boundsOf(t, w)[1] - boundsOf(t, w)[0];
        int first = best;
        int found = NONE;
        for (int c = 0; c < 2; c++) {
            Table other = t.copy();
            lay(other, c);
            int[] b = boundsOf(other, w);
            if (b[1] - b[0] < best) {
                best = b[1] - b[0];
                found = c;
            }
        }
        return what == 0 ? found : first - best;
    }

    long odds(int table, int where, int k, int what) {
        Table t = tableOf(table);
        List<int[]> w = whereOf(where);
        if (t == null || w == null || !in(k, 1, 4) || !in(what, 0, 1) || t.rows.size() < k) {
            return NONE;
        }
        java.math.BigInteger up = java.math.BigInteger.ONE;
        java.math.BigInteger down = java.math.BigInteger.ONE;
        int held = held(t, w);
        for (int i = 0; i < k; i++) {
            up = up.multiply(java.math.BigInteger.valueOf(Math.max(0, held - i)));
            down = down.multiply(java.math.BigInteger.valueOf(t.rows.size() - i));
        }
        java.math.BigInteger g = up.gcd(down);
        return (what == 0 ? up : down).divide(g).longValueExact();
    }

    int unit(int where, int i, int what) {
        List<int[]> w = whereOf(where);
        return w == null || !in(i, 0, w.size() - 1) || !in(what, 0, 3) ? HIDDEN : w.get(i)[what];
    }

    int shares(int table, int c) {
        if (tableOf(table) == null || !in(c, 0, 999)) {
            return NONE;
        }
        return now.all() == 0 ? 0 : c * tableOf(table).rows.size() / now.all();
    }

    int most(int what) {
        if (now.tables.isEmpty() || !in(what, 0, 5)) {
            return HIDDEN;
        }
        if (what == 4) {
            return now.all();
        }
        int best = -1;
        int found = 0;
        for (int i = 0; i < now.tables.size(); i++) {
            Table t = tableOf(i);
            if (what == 0 && t.rows.size() > best) {
                best = t.rows.size();
                found = i;
            }
            for (int a = -1; what == 3 && a < t.values; a++) {
                for (int b = -1; b < t.values; b++) {
                    found = Math.max(found, t.alike(a, b));
                }
            }
            for (int c = 0; c < 2; c++) {
                if (what == 1 && t.drift[c] > best) {
                    best = t.drift[c];
                    found = 10 * i + c;
                }
                for (Bucket b : t.buckets.get(c)) {
                    found = what == 2 ? Math.max(found, b.total) : found;
                }
                for (int v = 0; what == 5 && v < t.values; v++) {
                    int n = t.count(c, v);
                    if (n > best || n == best && v < found) {
                        best = n;
                        found = v;
                    }
                }
            }
        }
        return found;
    }

    int image() {
        if (now.tables.isEmpty()) {
            return NONE;
        }
        image = now.copy();
        return now.all();
    }

    int back() {
        if (image == null) {
            return NONE;
        }
        now = image.copy();
        before.clear();
        return now.all();
    }

    int count(int what) {
        int[] all = {now.tables.size(), wheres.size(), tape.length(), now.log.size(), before.size(), trace.size()};
        return in(what, 0, 5) ? all[what] : HIDDEN;
    }
}
