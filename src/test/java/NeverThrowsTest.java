import java.lang.reflect.InvocationTargetException;
import java.lang.reflect.Method;
import java.lang.reflect.Modifier;
import java.util.List;
import java.util.function.Supplier;

/** No call throws, whatever its numbers are and however much is told. */
public final class NeverThrowsTest {
    private static final int[] FAR = {Integer.MIN_VALUE, -1, 0, 1, 300, Integer.MAX_VALUE};
    private static final int CALLS_OF_ONE_OBJECT = 380;
    private static final Check check = new Check();

    public static void main(String[] args) throws IllegalAccessException {
        List<Supplier<LongSeats>> scenes =
                List.of(Scenes::empty, Scenes::seatsAlone, Scenes::bodiesAlone, Scenes::rich, Scenes::full);
        for (Supplier<LongSeats> scene : scenes) {
            for (Method m : LongSeats.class.getDeclaredMethods()) {
                if (Modifier.isPublic(m.getModifiers())) {
                    check.due(m.getName() + " threw", thrownBy(m, scene), 0);
                }
            }
        }
        check.end("NeverThrowsTest");
    }

    /** How many of all rows of far numbers the call throws for. */
    private static int thrownBy(Method m, Supplier<LongSeats> scene) throws IllegalAccessException {
        int rows = 1;
        for (int i = 0; i < m.getParameterCount(); i++) {
            rows *= FAR.length;
        }
        int thrown = 0;
        LongSeats x = scene.get();
        for (int row = 0; row < rows; row++) {
            if (row % CALLS_OF_ONE_OBJECT == 0) {
                x = scene.get();
            }
            try {
                m.invoke(x, numbersOf(m, row));
            } catch (InvocationTargetException e) {
                thrown++;
                System.out.println(m.getName() + ", row " + row + ": " + e.getCause());
            }
        }
        return thrown;
    }

    private static Object[] numbersOf(Method m, int row) {
        Object[] numbers = new Object[m.getParameterCount()];
        int left = row;
        for (int i = 0; i < numbers.length; i++) {
            int v = FAR[left % FAR.length];
            left /= FAR.length;
            if (m.getParameterTypes()[i] == long.class) {
                numbers[i] = (long) v << 32 | v & 0xffffffffL;
            } else {
                numbers[i] = v;
            }
        }
        return numbers;
    }
}
