import java.lang.reflect.InvocationTargetException;
import java.lang.reflect.Method;
import java.util.Arrays;
import java.util.Comparator;
import java.util.List;
import java.util.function.LongSupplier;
import java.util.stream.Collectors;

/** Runs the tests that bear a Sentence, each by itself, and names the sentence that doesn't hold. */
final class Edges {
    static final Class<?>[] ALL = {
        CurveEdges.class, ClassEdges.class, RoomEdges.class, CodeEdges.class, TurnEdges.class, RefusalEdges.class,
    };

    /** By 3 .. 13, of both degrees: f's prime first, with few points, with many, with y 0. */
    static final int[][] CURVES = {
        {3, 2, 2, 0, 1}, {3, 1, 2, 0, 1}, {3, 2, 0, 0, 2, 0, 1}, {3, 0, 2, 0, 2, 2, 1}, {5, 0, 2, 0, 1},
        {5, 0, 4, 0, 0, 0, 1}, {5, 2, 0, 0, 2, 3, 1}, {7, 1, 1, 0, 1}, {7, 3, 1, 0, 0, 0, 1}, {11, 3, 0, 1, 1},
        {11, 4, 0, 0, 0, 0, 1}, {13, 1, 4, 8, 1}, {13, 0, 1, 0, 10, 0, 1},
    };

    private Edges() {
    }

    static int[] rowOf(int[] told) {
        int[] row = new int[told.length - 1];
        System.arraycopy(told, 1, row, 0, row.length);
        return row;
    }

    static CurveRooms made(int[] told) {
        return Check.onCurve(told[0], rowOf(told));
    }

    /** y y = x x x + x + 1 by 7: the end and (0, 1), (0, 6), (2, 2), (2, 5). */
    static CurveRooms genus1() {
        return Check.onCurve(7, 1, 1, 0, 1);
    }

    /** y y = x x x x x + x + 3 by 7, with 11 points and 81 classes. */
    static CurveRooms genus2() {
        return Check.onCurve(7, 3, 1, 0, 0, 0, 1);
    }

    static List<Method> testsOf(Class<?> tests) {
        return Arrays.stream(tests.getDeclaredMethods())
            .filter(m -> m.isAnnotationPresent(Sentence.class))
            .sorted(Comparator.comparing(Method::getName))
            .collect(Collectors.toList());
    }

    static void run(Class<?> tests) throws IllegalAccessException {
        for (Method test : testsOf(tests)) {
            int before = Check.wrongMany();
            try {
                test.setAccessible(true);
                test.invoke(null);
            } catch (InvocationTargetException thrown) {
                Check.holds(test.getName() + " threw " + thrown.getCause(), false);
            }
            if (Check.wrongMany() == before) continue;
            Sentence told = test.getAnnotation(Sentence.class);
            System.out.println("not held, " + test.getName() + ", promise " + told.promise() + ": " + told.says());
        }
        Check.end();
    }

    /** A call that is refused: what it answers, and that nothing is changed by it. */
    static void refused(String call, CurveRooms x, LongSupplier made, long want) {
        long before = x.digest();
        Check.due(call, made.getAsLong(), want);
        Check.due(call + " changes nothing", x.digest(), before);
    }

    /** What some two hundred calls of all kinds answer on an object with a curve. */
    static long[] answers(CurveRooms x) {
        long[] told = new long[400];
        int n = 0;
        for (int k = 0; k < 7; k++) {
            told[n++] = x.count(k);
            told[n++] = x.places(k);
            told[n++] = x.share(k);
            told[n++] = x.group(k);
            told[n++] = x.point(4 * k, 0);
            told[n++] = x.point(4 * k, 2);
            told[n++] = x.gaps(2 * k);
            told[n++] = x.code(4 * k, 1);
            told[n++] = x.read(4 * k, k, k);
            told[n++] = x.turns(k - 1);
            told[n++] = x.turned(k, k);
            for (int what = 0; what < 3; what++) told[n++] = x.of(k, what % 2, what);
        }
        told[n++] = x.points();
        told[n++] = x.countAll();
        told[n++] = x.classes();
        for (int i = 0; i < 6; i++) {
            told[n++] = x.pick(i, 7 * i + 1);
            told[n++] = x.at(5 - i, i);
            told[n++] = x.sum(i, i, 3);
            told[n++] = x.which(i);
            told[n++] = x.order(i);
            told[n++] = x.log(i, 0);
            told[n++] = x.least(i);
            for (int what = -1; what < 4; what++) told[n++] = x.near(i, what);
            told[n++] = x.amount(i, 4 - i);
            for (int what = 0; what < 3; what++) told[n++] = x.room(what);
        }
        told[n++] = x.digest();
        return told;
    }

    /** An object in which everything that the digest tells is other than at first. */
    static CurveRooms full() {
        CurveRooms x = Check.onCurve(7, 3, 1, 0, 0, 0, 1);
        for (int r = 0; r < 6; r++) x.pick(r, 15 + 11 * r);
        x.amount(0, 9);
        for (int i = 1; i < 11; i++) x.amount(i, i < 5 ? i - 5 : i % 4 + 1);
        for (int j = 0; j < 26; j++) x.tell(j, 1 + j % 6);
        for (int a = 0; a < 7; a++) x.cover(a, 2 * a + 1);
        x.push(5);
        x.push(0);
        x.push(6);
        return x;
    }

    static void holdsPair(String what, CurveRooms x, int r, int[] u, int[] v) {
        for (int i = 0; i < 4; i++) {
            Check.due(what + ": u " + i, x.of(r, 0, i), i < u.length ? u[i] : Check.NONE);
            Check.due(what + ": v " + i, x.of(r, 1, i), i < v.length ? v[i] : Check.NONE);
        }
    }
}
