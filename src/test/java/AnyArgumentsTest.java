import java.lang.reflect.InvocationTargetException;
import java.lang.reflect.Method;
import java.lang.reflect.Modifier;
import java.util.Arrays;
import java.util.Comparator;
import java.util.Random;

/** Any call with any arguments in any state ends, and throws only what its head names, by a throw of the class. */
public final class AnyArgumentsTest {
    private static final int RUNS = 600;
    private static final int CALLS = 450;
    private static final int[] EDGES = {
        Integer.MIN_VALUE, Integer.MIN_VALUE + 1, -20, -2, -1, 0, 1, 2, 5, 6, 7, 8, 10, 11, 12, 13, 14, 15, 16, 20, 21,
        39, 40, 60, 61, 399, 400, 401, 700, 701, 999, 1000, Integer.MAX_VALUE - 1, Integer.MAX_VALUE,
    };

    public static void main(String[] args) throws IllegalAccessException {
        Method[] face = OnceVolume.class.getDeclaredMethods();
        face = Arrays.stream(face).filter(m -> Modifier.isPublic(m.getModifiers()))
            .sorted(Comparator.comparing(Method::getName)).toArray(Method[]::new);
        for (int run = 0; run < RUNS; run++) {
            Random random = new Random(run);
            OnceVolume x = Check.told(anyText(random));
            for (int i = 0; i < CALLS; i++) {
                Method method = face[random.nextInt(face.length)];
                // a run that tells all anew every few calls would never come far
                if (!isRare(method) || random.nextInt(10) == 0) {
                    call(x, method, anyArguments(random, method));
                }
            }
        }
        Check.end();
    }

    private static boolean isRare(Method method) {
        return method.getName().equals("disc") || method.getName().equals("restore");
    }

    private static String anyText(Random random) {
        StringBuilder text = new StringBuilder("disc ").append(40 + random.nextInt(361));
        text.append(' ').append(2 + random.nextInt(15)).append(' ').append(random.nextInt(5));
        text.append(' ').append(random.nextInt(9)).append(';');
        int block = random.nextInt(20);
        for (int bad = random.nextInt(13); bad > 0; bad--) {
            text.append("bad ").append(block).append(';');
            block += 1 + random.nextInt(20);
        }
        for (int name = random.nextInt(12); name < 12; name++) {
            text.append("file ").append(name);
            for (int cells = random.nextInt(9); cells > 0; cells--) {
                text.append(' ').append(random.nextInt(1000));
            }
            text.append(';');
        }
        return text.toString();
    }

    private static Object[] anyArguments(Random random, Method method) {
        Class<?>[] types = method.getParameterTypes();
        Object[] values = new Object[types.length];
        for (int i = 0; i < types.length; i++) {
            if (types[i] == boolean.class) {
                values[i] = random.nextBoolean();
            } else {
                values[i] = random.nextInt(3) == 0 ? EDGES[random.nextInt(EDGES.length)] : random.nextInt(13);
            }
        }
        return values;
    }

    private static void call(OnceVolume x, Method method, Object[] values) throws IllegalAccessException {
        try {
            method.invoke(x, values);
        } catch (InvocationTargetException e) {
            Throwable thrown = e.getCause();
            String shown = method.getName() + Arrays.toString(values) + " threw " + thrown + ", which its head names";
            Check.due(shown, true, isNamed(method, thrown) && isThrownByClass(thrown));
        }
    }

    private static boolean isNamed(Method method, Throwable thrown) {
        return Arrays.asList(method.getExceptionTypes()).contains(thrown.getClass());
    }

    private static boolean isThrownByClass(Throwable thrown) {
        StackTraceElement[] trace = thrown.getStackTrace();
        return trace.length > 0 && trace[0].getClassName().startsWith("OnceVolume");
    }
}
