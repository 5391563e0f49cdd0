import java.lang.reflect.InvocationTargetException;
import java.lang.reflect.Method;
import java.lang.reflect.Modifier;
import java.util.ArrayList;
import java.util.Arrays;
import java.util.Comparator;
import java.util.List;

/** Any call with any arguments in any state throws nothing but what its throws clause names. */
public final class AnyCallTest {
    private static final int RUNS = 200;
    private static final int CALLS = 512;
    private static final int[] FAR = {Integer.MIN_VALUE, Integer.MIN_VALUE + 1, -1000, -101, -41, -3, 21, 41, 60, 61,
        91, 93, 94, 99, 100, 118, 126, 127, 999, 1000, 65536, Integer.MAX_VALUE - 1, Integer.MAX_VALUE};

    private final Check check = new Check();
    private final List<Method> methods = new ArrayList<>();
    private long seed = 20261120L;

    public static void main(String[] args) throws IllegalAccessException {
        AnyCallTest test = new AnyCallTest();
        for (Method method : HangingChain.class.getDeclaredMethods()) {
            if (Modifier.isPublic(method.getModifiers())) {
                test.methods.add(method);
            }
        }
        test.methods.sort(Comparator.comparing(Method::getName));
        for (int run = 0; run < RUNS && test.check.wrong() == 0; run++) {
            HangingChain x = new HangingChain();
            for (int call = 0; call < CALLS; call++) {
                test.call(x, run, call);
            }
        }
        test.check.end();
    }

    private int any(int bound) {
        seed = seed * 6364136223846793005L + 1442695040888963407L;
        return (int) Long.remainderUnsigned(seed >>> 33, bound);
    }

    private void call(HangingChain x, int run, int call) throws IllegalAccessException {
        Method method = methods.get(any(methods.size()));
        Object[] arguments = new Object[method.getParameterCount()];
        for (int k = 0; k < arguments.length; k++) {
            arguments[k] = any(4) == 0 ? FAR[any(FAR.length)] : any(24) - 2;
        }
        try {
            method.invoke(x, arguments);
        } catch (InvocationTargetException thrown) {
            Class<?> got = thrown.getCause().getClass();
            if (!Arrays.asList(method.getExceptionTypes()).contains(got)) {
                check.tell("run " + run + ", call " + call + ": " + method.getName() + Arrays.toString(arguments)
                    + " throws " + got.getSimpleName());
            }
        }
    }
}
