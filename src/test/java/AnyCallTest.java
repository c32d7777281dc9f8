import java.lang.reflect.InvocationTargetException;
import java.lang.reflect.Method;
import java.util.Arrays;
import java.util.Comparator;
import java.util.Random;

/** No call ever throws, whatever it is given, in any state; and the same calls give the same answers. */
public final class AnyCallTest {
    private static final int[] EDGES = {0, 1, 2, 3, 4, 5, 6, 7, 8, 9, 10, 20, 21, 23, 24, 25, 60, 61, 100, 101, 511, 512,
        -1, -2, -3, 1000, 2000000000, 2000000001, Integer.MAX_VALUE, Integer.MIN_VALUE};

    public static void main(String[] args) throws ReflectiveOperationException {
        Method[] face = ConsentDoors.class.getMethods();
        face = Arrays.stream(face).filter(m -> m.getDeclaringClass() == ConsentDoors.class).toArray(Method[]::new);
        Arrays.sort(face, Comparator.comparing(Method::getName));
        for (int run = 0; run < 400; run++) {
            long first = runOf(face, run);
            Check.due("run " + run + " once more", runOf(face, run), first);
        }
        Check.finish();
    }

    private static long runOf(Method[] face, int run) throws ReflectiveOperationException {
        Random r = new Random(run);
        ConsentDoors x = new ConsentDoors();
        long sum = 0;
        for (int call = 0; call < 500; call++) {
            if (call % 100 == 0 && r.nextInt(5) != 0) {
                Check.tell(x, Model.random(r, 2 + r.nextInt(8), 1 + r.nextInt(24)).text);
            }
            if (r.nextInt(20) == 0) {
                Check.write(x, r.nextInt(4), r.nextInt(3), r.nextInt(3), r.nextInt(2), 3 + r.nextInt(3), r.nextInt(3), r.nextInt(2));
            }
            Method m = face[r.nextInt(face.length)];
            Object[] given = new Object[m.getParameterCount()];
            for (int i = 0; i < given.length; i++) {
                int number = r.nextInt(3) == 0 ? EDGES[r.nextInt(EDGES.length)] : r.nextInt(10);
                boolean isLong = m.getParameterTypes()[i] == long.class;
                given[i] = isLong ? (Object) Long.valueOf(r.nextBoolean() ? number : r.nextLong()) : (Object) number;
            }
            sum = 31 * sum + answer(x, m, given);
        }
        return sum;
    }

    private static int answer(ConsentDoors x, Method m, Object[] given) throws ReflectiveOperationException {
        try {
            return (Integer) m.invoke(x, given);
        } catch (InvocationTargetException thrown) {
            Check.holds(m.getName() + Arrays.toString(given) + " threw " + thrown.getCause(), false);
            return 0;
        }
    }
}
