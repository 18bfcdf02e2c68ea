import java.lang.reflect.InvocationTargetException;
import java.lang.reflect.Method;
import java.lang.reflect.Modifier;
import java.util.ArrayList;
import java.util.Comparator;
import java.util.List;
import java.util.Random;

/** No call throws, for any arguments in any state, not even after the 512th one. The seed is fixed. */
public final class NoThrowTest {
    private static final int OBJECTS = 1000, CALLS = 1500;
    private static final int[] EDGES = {-1, -2, -9, -10, 31, 32, 39, 40, 41, 126, 127, 4999, 5000, 5001, 9997, 9998, 9999,
        10000, 10001, Integer.MAX_VALUE, Integer.MAX_VALUE - 9, Integer.MIN_VALUE, Integer.MIN_VALUE + 9};
    private static final Random RANDOM = new Random(20261120);

    public static void main(String[] args) throws IllegalAccessException {
        Check check = new Check();
        List<Method> methods = methods();
        for (int o = 0; o < OBJECTS; o++) check.due("calls of object " + o, callsWithoutThrow(new CutConformer(), methods), CALLS);
        check.end("NoThrowTest");
    }

    private static List<Method> methods() {
        List<Method> all = new ArrayList<>();
        for (Method m : CutConformer.class.getDeclaredMethods()) {
            if (Modifier.isPublic(m.getModifiers())) all.add(m);
        }
        all.sort(Comparator.comparing(Method::getName));
        return all;
    }

    private static int callsWithoutThrow(CutConformer x, List<Method> methods) throws IllegalAccessException {
        for (int call = 0; call < CALLS; call++) {
            Method m = methods.get(RANDOM.nextInt(methods.size()));
            Object[] arguments = new Object[m.getParameterCount()];
            for (int k = 0; k < arguments.length; k++) {
                arguments[k] = m.getParameterTypes()[k] == boolean.class ? (Object) RANDOM.nextBoolean() : (Object) number();
            }
            try {
                m.invoke(x, arguments);
            } catch (InvocationTargetException thrown) {
                System.out.println(m.getName() + List.of(arguments) + " threw " + thrown.getCause());
                return call;
            }
        }
        return CALLS;
    }

    private static int number() {
        switch (RANDOM.nextInt(4)) {
            case 0: return EDGES[RANDOM.nextInt(EDGES.length)];
            case 1: return RANDOM.nextInt(5);
            case 2: return RANDOM.nextInt(40);
            default: return RANDOM.nextInt(200);
        }
    }
}
