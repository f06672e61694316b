import java.lang.annotation.ElementType;
import java.lang.annotation.Retention;
import java.lang.annotation.RetentionPolicy;
import java.lang.annotation.Target;
import java.lang.reflect.InvocationTargetException;
import java.lang.reflect.Method;
import java.util.ArrayList;
import java.util.Arrays;
import java.util.Comparator;
import java.util.List;

/**
 * What the tests share: answers that are due, refused calls, rows, and the running of a class's tests.
 * An object is promised 512 calls, so a test makes new ones rather than use one for long.
 */
abstract class Check {
    static final long UNDEFINED = 0, NULL = 1, FALSE = 2, TRUE = 3;
    static final long LONGEST_KEY = text("longkey");

    private static int wrong = 0;
    private static String running = "";

    /** A test, and the sentence of the document that it is for. */
    @Retention(RetentionPolicy.RUNTIME)
    @Target(ElementType.METHOD)
    @interface Says {
        String value();
    }

    interface Call {
        void make();
    }

    static void runAll(Class<?> tests) {
        List<Method> all = new ArrayList<>();
        for (Method method : tests.getDeclaredMethods()) {
            if (method.isAnnotationPresent(Says.class)) {
                all.add(method);
            }
        }
        all.sort(Comparator.comparing(Method::getName));
        for (Method test : all) {
            run(test);
        }
        running = "";
        due("there are tests", !all.isEmpty(), true);
        finish(all.size() + " tests");
    }

    private static void run(Method test) {
        running = test.getName() + " [" + test.getAnnotation(Says.class).value() + "] ";
        try {
            test.setAccessible(true);
            test.invoke(null);
        } catch (InvocationTargetException e) {
            fail("ended by " + e.getCause());
        } catch (IllegalAccessException e) {
            fail("could not be run");
        }
    }

    static void finish(String what) {
        System.out.println(wrong == 0 ? what + ": all answers are as due" : wrong + " answers are not as due");
        if (wrong != 0) {
            System.exit(1);
        }
    }

    static void fail(String what) {
        wrong++;
        System.out.println(running + what);
    }

    static void due(String what, long got, long want) {
        if (got != want) {
            fail(what + ": answered " + got + ", due is " + want);
        }
    }

    static void due(String what, boolean got, boolean want) {
        due(what, got ? 1 : 0, want ? 1 : 0);
    }

    private static void refused(String what, Class<?> want, Call call) {
        Class<?> got = null;
        try {
            call.make();
        } catch (RuntimeException e) {
            got = e.getClass();
        }
        if (got != want) {
            fail(what + ": threw " + got + ", due is " + want);
        }
    }

    static void badArgument(String what, Call call) {
        refused(what, IllegalArgumentException.class, call);
    }

    static void badState(String what, Call call) {
        refused(what, IllegalStateException.class, call);
    }

    /** For small objects: asking for the whole state takes many of the 512 calls. */
    static void changesNothing(String what, GraphCourier x, Call call) {
        String before = state(x);
        call.make();
        String after = state(x);
        if (!before.equals(after)) {
            fail(what + ": was " + before + ", is " + after);
        }
    }

    static String state(GraphCourier x) {
        StringBuilder all = new StringBuilder("wides");
        for (int k = 0; x.same(wideValue(k), wideValue(k)); k++) {
            all.append(' ').append(x.bits(k));
        }
        for (int i = 0; i < x.things(); i++) {
            all.append(", thing ").append(x.kind(i)).append(' ').append(x.traitsOf(i)).append(" items");
            for (int k = 0; k < Math.max(1, x.count(i)); k++) {
                all.append(' ').append(x.item(i, k));
            }
            all.append(" pairs");
            for (int k = 0; k < x.pairs(i); k++) {
                all.append(' ').append(x.pair(i, k, true)).append('=').append(x.pair(i, k, false));
            }
        }
        return all.append(", row ").append(Arrays.toString(rowOf(x))).toString();
    }

    static int[] rowOf(GraphCourier x) {
        int[] row = new int[x.size()];
        for (int i = 0; i < row.length; i++) {
            row[i] = x.byteAt(i);
        }
        return row;
    }

    static long text(String letters) {
        long t = 0;
        for (int i = letters.length() - 1; i >= 0; i--) {
            t = t << 8 | letters.charAt(i);
        }
        return t;
    }

    static long textValue(String letters) {
        return 16 * text(letters) + 6;
    }

    static long integer(long n) {
        return 16 * n + 4;
    }

    static long wideValue(long k) {
        return 16 * k + 5;
    }

    static long thing(long i) {
        return 16 * i + 7;
    }

    static void tell(GraphCourier x, int... row) {
        x.cut(0);
        for (int i = 0; i < row.length; i++) {
            due("alter(" + i + ")", x.alter(i, row[i]), true);
        }
    }

    static int[] join(int[] a, int... b) {
        int[] all = Arrays.copyOf(a, a.length + b.length);
        System.arraycopy(b, 0, all, a.length, b.length);
        return all;
    }

    static void rowIs(String what, GraphCourier x, int... row) {
        int[] got = rowOf(x);
        if (!Arrays.equals(got, row)) {
            fail(what + ": the row is " + Arrays.toString(got) + ", due is " + Arrays.toString(row));
        }
    }

    static void rowEndsWith(String what, GraphCourier x, int... end) {
        for (int i = 0; i < end.length; i++) {
            due(what + ", byte " + (i - end.length) + " from the end", x.byteAt(x.size() - end.length + i), end[i]);
        }
    }

    static void writes(String what, GraphCourier x, long value, int... row) {
        due(what + ", size", x.encode(value), row.length);
        rowIs(what, x, row);
    }

    static void faultAt(String what, GraphCourier x, int place, int... row) {
        tell(x, row);
        int things = x.things();
        badArgument(what, x::decode);
        due(what + ", place", x.fault(), place);
        due(what + ", nothing made", x.things(), things);
    }

    static void faultAt(String what, int place, int... row) {
        faultAt(what, new GraphCourier(), place, row);
    }

    static void reads(String what, GraphCourier x, long value, int... row) {
        tell(x, row);
        try {
            due(what, x.decode(), value);
        } catch (IllegalArgumentException e) {
            fail(what + ": fault at " + x.fault());
        }
        due(what + ", no fault", x.fault(), -1);
    }

    static GraphCourier withWides(int n) {
        GraphCourier x = new GraphCourier();
        for (int k = 0; k < n; k++) {
            x.wide(k);
        }
        return x;
    }

    static GraphCourier withThings(int n) {
        GraphCourier x = new GraphCourier();
        for (int i = 0; i < n; i++) {
            x.date(i);
        }
        return x;
    }

    /** Traits i have the one member 'a' + i, no name, and are not dynamic. */
    static GraphCourier withTraits(int n) {
        GraphCourier x = new GraphCourier();
        for (int i = 0; i < n; i++) {
            x.traits(0, false, 'a' + i, 0, 0);
        }
        return x;
    }

    /** Arrays 0 .. n - 1, each the only item of the one before it. */
    static GraphCourier withNest(int n) {
        GraphCourier x = new GraphCourier();
        for (int i = 0; i < n; i++) {
            x.array();
            if (i > 0) {
                x.append(i - 1, thing(i));
            }
        }
        return x;
    }

    /** The row of arrays, each the only item of the one before it, up to where the last one's item stands. */
    static int[] nestRow(int n) {
        int[] row = new int[0];
        for (int i = 0; i < n; i++) {
            row = join(row, 9, 3, 1);
        }
        return row;
    }

    /** Thing 0, an ARRAY of seven arrays, takes 600 bytes; with a larger value behind array 3's key, 601. */
    static GraphCourier withLongest() {
        GraphCourier x = withWides(1);
        x.array();
        for (int i = 1; i <= 7; i++) {
            x.append(0, x.array());
            for (int k = 0; k < 8; k++) {
                x.append(i, i <= 5 ? wideValue(0) : integer(-1));
            }
        }
        // 8 * 3 for the arrays, 40 * 9 for wide numbers, 16 * 5 for integers: 464
        for (int i = 0; i < 6; i++) {
            x.put(0, LONGEST_KEY + ((long) i << 48), integer(-1));
            x.put(1, LONGEST_KEY + ((long) i << 48), integer(-1));
        }
        // 6 * 13 with the keys in full, 6 * 6 with their places: 578
        for (int i = 0; i < 3; i++) {
            x.put(2, LONGEST_KEY + ((long) i << 48), integer(-1));
        }
        // 3 * 6 and 4: 600
        x.put(3, LONGEST_KEY, integer(128));
        return x;
    }
}
