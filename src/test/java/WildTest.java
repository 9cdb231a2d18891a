import java.lang.reflect.InvocationTargetException;
import java.lang.reflect.Method;
import java.lang.reflect.Modifier;
import java.util.function.Supplier;

/** No call ever throws: each one, with numbers at and beside the bounds, on an empty, a used and a full object. */
public final class WildTest {
    private static final int[] NUMBERS = {Integer.MIN_VALUE, -1000, -1, 0, 1, 5, 10, 24, 999, 1000, 1 << 24,
        Integer.MAX_VALUE};
    private static final int CALLS = 400;

    private RailCargo x;
    private int calls;

    public static void main(String[] args) throws IllegalAccessException {
        new WildTest().callAll(RailCargo::new);
        new WildTest().callAll(Made::some);
        new WildTest().callAll(Made::full);
        Due.end("WildTest");
    }

    private void callAll(Supplier<RailCargo> made) throws IllegalAccessException {
        for (Method call : RailCargo.class.getDeclaredMethods()) {
            if (Modifier.isPublic(call.getModifiers())) {
                x = made.get();
                calls = 0;
                fill(made, call, new Object[call.getParameterCount()], 0);
            }
        }
    }

    private void fill(Supplier<RailCargo> made, Method call, Object[] numbers, int at) throws IllegalAccessException {
        if (at == numbers.length) {
            ask(made, call, numbers);
            return;
        }
        boolean wide = call.getParameterTypes()[at] == long.class;
        for (int number : NUMBERS) {
            numbers[at] = wide ? (Object) (number * 4294967297L) : (Object) number;
            fill(made, call, numbers, at + 1);
        }
    }

    private void ask(Supplier<RailCargo> made, Method call, Object[] numbers) throws IllegalAccessException {
        if (++calls % CALLS == 0) {
            x = made.get();
        }
        Throwable thrown = null;
        try {
            call.invoke(x, numbers);
        } catch (InvocationTargetException e) {
            thrown = e.getCause();
        }
        String what = call.getName() + " " + java.util.Arrays.toString(numbers) + " threw " + thrown;
        Due.is(what, thrown == null ? 0 : 1, 0);
    }
}
