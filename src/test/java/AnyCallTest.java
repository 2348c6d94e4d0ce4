import java.lang.reflect.InvocationTargetException;
import java.lang.reflect.Method;
import java.lang.reflect.Modifier;
import java.util.ArrayList;
import java.util.Comparator;
import java.util.List;
import java.util.Random;

/** With any arguments in any state a call throws only what the document names, and by a throw of its own. */
final class AnyCallTest extends Check {
    private static final int RUNS = 400;
    private static final int CALLS = 512;
    // What is answered so late is free, but not that the call ends, and what it may throw.
    private static final int LATE_CALLS = 200000;
    private static final int[] STRANGE = {-1, 0, 12, 13, 60, 61, 100, 101, 9999, 10000,
        Integer.MIN_VALUE, Integer.MAX_VALUE, Integer.MIN_VALUE + 1, 1 << 30};

    private final IronbridgeCache net = new IronbridgeCache();
    private final Random random;
    private final List<Method> methods = new ArrayList<>();

    public static void main(String[] args) throws IllegalAccessException {
        for (int run = 0; run < RUNS; run++) {
            new AnyCallTest(run).play(CALLS);
        }
        new AnyCallTest(RUNS).play(LATE_CALLS);
        fullOfThings();
        close("AnyCallTest");
    }

    private AnyCallTest(int run) {
        random = new Random(run);
        for (Method method : IronbridgeCache.class.getDeclaredMethods()) {
            if (Modifier.isPublic(method.getModifiers())) {
                methods.add(method);
            }
        }
        // The machine tells them in no order, and the runs are to be the same ones each time.
        methods.sort(Comparator.comparing(Method::getName));
    }

    private void play(int calls) throws IllegalAccessException {
        for (int i = 0; i < calls; i++) {
            call(methods.get(random.nextInt(methods.size())));
        }
    }

    private void call(Method method) throws IllegalAccessException {
        Class<?>[] types = method.getParameterTypes();
        Object[] arguments = new Object[types.length];
        boolean isStrange = random.nextInt(4) == 0;
        for (int i = 0; i < types.length; i++) {
            arguments[i] = types[i] == int.class ? (Object) number(isStrange) : (Object) random.nextBoolean();
        }
        try {
            method.invoke(net, arguments);
        } catch (InvocationTargetException e) {
            Throwable thrown = e.getCause();
            boolean isNamed = List.of(method.getExceptionTypes()).contains(thrown.getClass());
            same("rule 7: " + method.getName() + " throws what the document names: " + thrown, isNamed, true);
            sameText("rule 7: of its own: " + thrown, thrown.getStackTrace()[0].getClassName(), "IronbridgeCache");
        }
    }

    private int number(boolean isStrange) {
        return isStrange ? STRANGE[random.nextInt(STRANGE.length)] : random.nextInt(random.nextBoolean() ? 4 : 12);
    }

    /** Mended again and again without a tick, a line is full of things; each call has to end all the same. */
    private static void fullOfThings() {
        IronbridgeCache net = netOf(1, 0);
        net.setRoom(6);
        readAll(net, 0, 1, 2, 3, 4, 5);
        for (int file = 0; file < 6; file++) {
            net.write(0, file, 1);
        }
        for (int i = 0; i < LATE_CALLS; i++) {
            net.cut(0, i % 2 == 0);
        }
        net.calmIn(100);
        net.tick(60);
        net.digest();
        net.conflictsIn(0, 100);
        same("10 the clock goes on", net.clock(), 62);
    }
}
