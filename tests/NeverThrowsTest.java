import java.lang.reflect.InvocationTargetException;
import java.lang.reflect.Method;
import java.lang.reflect.Modifier;
import java.util.ArrayList;
import java.util.Comparator;
import java.util.List;
import java.util.NoSuchElementException;
import java.util.Random;

/** Any call, with any arguments, in any state: nothing is thrown but what the document names. */
public final class NeverThrowsTest {
    private static final long[] EDGES = {
        0, 1, 2, 3, 4, 5, 7, 8, 15, 16, 17, 39, 40, 41, 59, 60, 61, 99, 100, 999, 1000, -1, -2, -17,
        Integer.MAX_VALUE, Integer.MIN_VALUE, 1L << 16, 1L << 30, Long.MAX_VALUE, Long.MIN_VALUE,
    };
    private static final String[] BOOKS = {
        "t", "tv16;tv16;tv16", "sb8d0q1;tv16;ra15b15n40;tv2;rt1a1b1", "tv2;tv16;rt1a9b3n40;tv3;sb1d99",
    };
    private static final String[] WHERES = {"a?|b?", "a<99&b>0|a=3&b?|b=15&a>7", "b=99", "a>0"};

    private NeverThrowsTest() {
    }

    public static void main(String[] args) throws IllegalAccessException {
        Check check = new Check();
        List<Method> face = new ArrayList<>();
        for (Method m : SafeBuckets.class.getDeclaredMethods()) {
            if (Modifier.isPublic(m.getModifiers())) {
                face.add(m);
            }
        }
        face.sort(Comparator.comparing(Method::getName));
        check.due("how many methods the face has", face.size(), 35);
        for (long seed = 1; seed <= 300; seed++) {
            play(new Random(seed), face, check);
        }
        check.finish("NeverThrowsTest");
    }

    private static void play(Random random, List<Method> face, Check check) throws IllegalAccessException {
        SafeBuckets x = new SafeBuckets();
        for (int call = 0; call < 500; call++) {
            if (random.nextInt(80) == 0) {
                Check.tell(x, BOOKS[random.nextInt(BOOKS.length)], 0);
            }
            if (random.nextInt(60) == 0) {
                Check.tell(x, WHERES[random.nextInt(WHERES.length)], 1);
            }
            Method m = face.get(random.nextInt(face.size()));
            Object[] args = new Object[m.getParameterCount()];
            for (int i = 0; i < args.length; i++) {
                long n = random.nextInt(3) > 0 ? random.nextInt(4) : EDGES[random.nextInt(EDGES.length)];
                n = random.nextInt(30) == 0 ? random.nextLong() : n;
                args[i] = m.getParameterTypes()[i] == long.class ? (Object) n : (Object) (int) n;
            }
            try {
                m.invoke(x, args);
                check.due("fine", 0, 0);
            } catch (InvocationTargetException e) {
                boolean named = m.getName().equals("table") && e.getCause() instanceof NoSuchElementException;
                check.due(m.getName() + " threw " + e.getCause(), named, true);
            }
        }
    }
}
