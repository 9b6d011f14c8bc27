import java.lang.reflect.InvocationTargetException;
import java.lang.reflect.Method;
import java.lang.reflect.Modifier;
import java.util.Arrays;
import java.util.Comparator;
import java.util.Random;

/** LANGUAGE.md, 7: no call throws, for any arguments in any state, behind the 512th call too. */
public final class AnyArgumentsTest {
    private static final int[] FAR = {Integer.MIN_VALUE, Integer.MIN_VALUE + 1, -61, -2, -1, 8, 9, 10, 16, 17, 27, 28, 59, 60, 61,
        255, 256, 1023, 1024, Integer.MAX_VALUE - 1, Integer.MAX_VALUE};
    private static final String SIGNS = "abcdefghABCDEFGH0123456789;";

    public static void main(String[] args) throws IllegalAccessException {
        Method[] acts = Arrays.stream(AfternoonChange.class.getDeclaredMethods())
            .filter(m -> Modifier.isPublic(m.getModifiers()))
            .sorted(Comparator.comparing(Method::getName)).toArray(Method[]::new);
        for (int run = 1; run <= 60; run++) {
            Random random = new Random(run);
            AfternoonChange x = Due.made("b09c;d09c;c09d;e09f;h45g;a00b", "CdeF");
            for (int call = 0; call < 1500; call++) {
                one(x, acts[random.nextInt(acts.length)], random, run);
            }
        }
        Due.end("AnyArgumentsTest");
    }

    private static void one(AfternoonChange x, Method act, Random random, int run) throws IllegalAccessException {
        Object[] given = new Object[act.getParameterCount()];
        for (int i = 0; i < given.length; i++) {
            int kind = random.nextInt(12);
            given[i] = kind == 0 ? FAR[random.nextInt(FAR.length)]
                : kind == 1 ? SIGNS.charAt(random.nextInt(SIGNS.length())) + 0 : random.nextInt(4);
        }
        String call = "run " + run + ": " + act.getName() + Arrays.toString(given);
        try {
            act.invoke(x, given);
            Due.holds(call, true);
        } catch (InvocationTargetException e) {
            Due.holds(call + " threw " + e.getCause(), false);
        }
    }
}
