import java.lang.reflect.InvocationTargetException;
import java.lang.reflect.Method;
import java.lang.reflect.Modifier;
import java.util.Arrays;
import java.util.Comparator;

/**
 * No call throws: every call of the face with every choice of ordinary, narrow and far numbers, in several
 * states. An object is changed for a new one before its 512 calls are over.
 */
public final class NeverThrowsTest extends Checks {
    private static final int MOST_CALLS = 512;
    private static final int[] MANY = {MIN, MIN + 1, -15, -2, -1, 0, 1, 2, 3, 5, 6, 7, 11, 12, 13, 24, 25, 60, 61,
        131, 256, 999999, 1 << 30, MAX - 1, MAX};
    private static final int[] SOME = {MIN, -1, 0, 1, 3, 5, 10, 24, MAX};
    private static final int[] FEW = {MIN, -1, 0, 1, 3, 10, MAX};
    private static final long[] LONGS = {Long.MIN_VALUE, -1, 0, 1, 255, 1L << 32, Long.MAX_VALUE};
    /** No circuit, too little for one, the least ones, one of all kinds, the greatest one. */
    private static final String[] TAPES = {"", "cp0,p", "cl0,s9;5-;010;0", "cf9,b9;90;019;0", ALL, MOST};

    private static long calls = 0;
    private static LoserPicks object = null;
    private static int used = 0;

    private static void renew(String tape, int heard) {
        object = new LoserPicks();
        read(object, tape);
        for (int k = 0; k < heard; k++) {
            object.hear(k % 3);
            object.sheet(k % 4, k % 4, 24 / (k + 1));
        }
        object.image(1);
        used = tape.length() + 2 + 2 * heard;
    }

    private static void call(Method method, Object[] arguments, String tape, int heard) throws IllegalAccessException {
        if (object == null || used >= MOST_CALLS) {
            renew(tape, heard);
        }
        used++;
        calls++;
        try {
            method.invoke(object, arguments);
        } catch (InvocationTargetException thrown) {
            fail(method.getName() + Arrays.toString(arguments) + " threw " + thrown.getCause());
            object = null;
        }
    }

    private static void callAll(Method method, Object[] arguments, int k, String tape, int heard)
            throws IllegalAccessException {
        if (k == arguments.length) {
            call(method, arguments, tape, heard);
        } else if (method.getParameterTypes()[k] == long.class) {
            for (long v : LONGS) {
                arguments[k] = v;
                callAll(method, arguments, k + 1, tape, heard);
            }
        } else {
            for (int v : arguments.length < 4 ? MANY : arguments.length < 5 ? SOME : FEW) {
                arguments[k] = v;
                callAll(method, arguments, k + 1, tape, heard);
            }
        }
    }

    private static Method[] face() {
        return Arrays.stream(LoserPicks.class.getDeclaredMethods())
            .filter(method -> Modifier.isPublic(method.getModifiers()))
            .sorted(Comparator.comparing(Method::getName)).toArray(Method[]::new);
    }

    public static void main(String[] args) throws IllegalAccessException {
        for (String tape : TAPES) {
            for (int heard : new int[] {0, 4, 12}) {
                sentence("no call throws: \"" + tape + "\", heard " + heard);
                for (Method method : face()) {
                    object = null;
                    callAll(method, new Object[method.getParameterCount()], 0, tape, heard);
                }
            }
        }
        System.out.println(calls + " calls were made");
        finish("never throws");
    }
}
