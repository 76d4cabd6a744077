import java.lang.reflect.InvocationTargetException;
import java.lang.reflect.Method;
import java.lang.reflect.Modifier;
import java.util.ArrayList;
import java.util.Arrays;
import java.util.Comparator;
import java.util.List;
import java.util.NoSuchElementException;
import java.util.Random;

/** Any call with any arguments: nothing but the NoSuchElementException of the four that tell of it is thrown. */
public final class WildTest {
    private static final List<String> THROWING = Arrays.asList("made", "plan", "fixed", "tried");
    private static final int[] ODD = {Integer.MIN_VALUE, Integer.MIN_VALUE + 1, -1000, -2, -1, 10, 12, 24, 60, 63, 64, 99,
        100, 255, 256, 999, 1000, 9999, 10000, 1 << 20, Integer.MAX_VALUE - 1, Integer.MAX_VALUE};

    private static Object argument(Random r, Class<?> type, int wildness) {
        if (type == boolean.class) return r.nextBoolean();
        if (type == long.class) return Texts.pack(Texts.rule(r) + "        ", 0);
        return r.nextInt(100) < wildness ? ODD[r.nextInt(ODD.length)] : r.nextInt(r.nextInt(4) == 0 ? 24 : 4);
    }

    public static void main(String[] args) throws Exception {
        List<Method> face = new ArrayList<>();
        for (Method m : MenOnCradles.class.getDeclaredMethods()) if (Modifier.isPublic(m.getModifiers())) face.add(m);
        face.sort(Comparator.comparing(Method::getName));
        int thrown = 0;
        for (int run = 0; run < 300; run++) {
            Random r = new Random(run);
            MenOnCradles x = run % 2 == 0 ? new MenOnCradles() : Due.ready();
            for (int call = 0; call < 500; call++) {
                Method m = face.get(r.nextInt(face.size()));
                Class<?>[] types = m.getParameterTypes();
                Object[] given = new Object[types.length];
                for (int i = 0; i < given.length; i++) given[i] = argument(r, types[i], run % 3 * 10);
                try {
                    m.invoke(x, given);
                } catch (InvocationTargetException e) {
                    thrown++;
                    boolean due = e.getCause().getClass() == NoSuchElementException.class && THROWING.contains(m.getName());
                    Due.yes("run " + run + ": " + m.getName() + Arrays.toString(given) + " threw " + e.getCause(), due);
                }
            }
        }
        Due.yes("some were thrown", thrown > 100);
        Due.end("WildTest");
    }
}
