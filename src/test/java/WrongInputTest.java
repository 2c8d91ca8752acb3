import java.lang.reflect.InvocationTargetException;
import java.lang.reflect.Method;
import java.lang.reflect.Modifier;
import java.util.Arrays;
import java.util.List;

/**
 * Every method with every combination of edges and extreme numbers, on gearboxes from empty to
 * full: only exceptions of its own list come out, and a call that throws changes nothing.
 */
public final class WrongInputTest {
    private static final int[] NUMBERS = {Integer.MIN_VALUE, -1, 0, 1, 2, 6, 64, Integer.MAX_VALUE};
    private static final int[] FEWER = {Integer.MIN_VALUE, 0, 1, 2, 20, Integer.MAX_VALUE};
    private static final int BOXES = 4;

    public static void main(String[] args) throws ReflectiveOperationException {
        for (Method method : PlanetaryGearbox.class.getDeclaredMethods()) {
            if (Modifier.isPublic(method.getModifiers())) {
                for (int kind = 0; kind < BOXES; kind++) {
                    callWithAll(method, kind);
                }
            }
        }
        Check.finish();
    }

    private static PlanetaryGearbox box(int kind) {
        PlanetaryGearbox box = new PlanetaryGearbox();
        if (kind > 0) {
            box.addSet(0, 2, 1, 20, 40);
            box.addBrake(2);
            box.addClutch(0, 1);
            box.select(kind);
        }
        if (kind == 3) {
            box.save(1);
            box.addSet(3, 4, 5, 10, 100);
            box.addSet(2, 3, 4, 40, 41);
            box.addBrake(4);
            box.addClutch(1, 5);
            box.addClutch(5, 0);
            box.addBrake(1);
            box.setCapacity(5, 1);
        }
        return box;
    }

    private static void callWithAll(Method method, int kind) throws ReflectiveOperationException {
        int parameters = method.getParameterCount();
        int[] numbers = parameters > 3 ? FEWER : NUMBERS;
        int combinations = 1;
        for (int i = 0; i < parameters; i++) {
            combinations *= numbers.length;
        }
        String before = look(box(kind));
        for (int combination = 0; combination < combinations; combination++) {
            Object[] arguments = new Object[parameters];
            int rest = combination;
            for (int i = 0; i < parameters; i++) {
                arguments[i] = numbers[rest % numbers.length];
                rest /= numbers.length;
            }
            PlanetaryGearbox box = box(kind);
            if (!call(method, box, arguments)) {
                String text = "after " + method.getName() + Arrays.toString(arguments);
                Check.equalText(text, look(box), before);
            }
        }
    }

    /** Answers true if the call threw nothing. */
    private static boolean call(Method method, PlanetaryGearbox box, Object[] arguments)
            throws ReflectiveOperationException {
        try {
            method.invoke(box, arguments);
            return true;
        } catch (InvocationTargetException wrapped) {
            Class<?> thrown = wrapped.getCause().getClass();
            List<Class<?>> promised = List.of(method.getExceptionTypes());
            Check.isTrue(method.getName() + Arrays.toString(arguments) + " threw " + thrown,
                    promised.contains(thrown));
            return false;
        }
    }

    private static String look(PlanetaryGearbox box) {
        StringBuilder text = new StringBuilder();
        text.append(box.count(0)).append(' ').append(box.count(1)).append(' ').append(box.count(2));
        text.append(' ').append(box.engaged()).append(' ').append(box.state());
        for (int element = 0; element < box.count(1); element++) {
            int capacity = box.setCapacity(element, 1);
            box.setCapacity(element, capacity);
            text.append(' ').append(capacity);
        }
        for (int undone = 0; undone < 3; undone++) {
            text.append(box.undo() ? " undone " : " none ").append(box.engaged());
        }
        return text.toString();
    }
}
