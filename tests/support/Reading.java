import java.util.LinkedHashMap;
import java.util.Map;

/** All that can be read of an object without changing it, call by call; some 140 calls for a small book. */
final class Reading {
    private final Map<String, Long> answers = new LinkedHashMap<>();

    private Reading() {
    }

    static Reading of(SafeBuckets x) {
        Reading r = new Reading();
        r.readCounts(x);
        for (int table = 0; table < x.count(0); table++) {
            r.readTable(x, table);
        }
        r.readTexts(x);
        return r;
    }

    private void put(String call, long answer) {
        answers.put(call, answer);
    }

    private void readCounts(SafeBuckets x) {
        for (int what = 0; what < 6; what++) {
            put("count " + what, x.count(what));
            put("most " + what, x.most(what));
        }
        for (int what = 0; what < 5; what++) {
            put("status " + what, x.status(what));
        }
        for (int what = 0; what < 3; what++) {
            put("rule " + what, x.rule(what));
        }
        for (int i = 0; i < x.count(3); i++) {
            for (int what = 0; what < 3; what++) {
                put("log " + i + ", " + what, x.log(i, what));
            }
        }
        for (int i = 0; i < x.count(5); i++) {
            put("trace " + i, x.trace(i));
        }
    }

    private void readTable(SafeBuckets x, int table) {
        String name = "table " + table + ": ";
        for (int what = 0; what < 4; what++) {
            put(name + what, x.table(table, what));
        }
        int values = (int) (long) answers.get(name + 0);
        for (int a = -1; a < values; a++) {
            for (int b = -1; b < values; b++) {
                put(name + "rows " + a + ", " + b, x.rows(table, a, b));
            }
        }
        for (int column = 0; column < 2; column++) {
            String its = name + "column " + column + ": ";
            for (int value = 0; value < values; value++) {
                put(its + "count " + value, x.countOf(table, column, value));
            }
            put(its + "buckets", x.column(table, column, 0));
            put(its + "drift", x.column(table, column, 1));
            for (int i = 0; i < answers.get(its + "buckets"); i++) {
                for (int what = 0; what < 4; what++) {
                    put(its + "bucket " + i + ", " + what, x.bucket(table, column, i, what));
                }
            }
        }
    }

    private void readTexts(SafeBuckets x) {
        put("fault 0", x.fault(0));
        put("fault 1", x.fault(1));
        for (int where = 0; where < answers.get("count 1"); where++) {
            for (int i = 0; i < 2; i++) {
                for (int what = 0; what < 4; what++) {
                    put("unit " + where + ", " + i + ", " + what, x.unit(where, i, what));
                }
            }
        }
    }

    /** The same as another reading, but for a number more at one place (null: at none). */
    void sameAs(Reading other, String place, long more, Check check, String behind) {
        check.due("as many answers behind " + behind, answers.size(), other.answers.size());
        for (Map.Entry<String, Long> e : answers.entrySet()) {
            long want = other.answers.getOrDefault(e.getKey(), Long.MIN_VALUE);
            check.due(e.getKey() + " behind " + behind, e.getValue(), want + (e.getKey().equals(place) ? more : 0));
        }
    }
}
