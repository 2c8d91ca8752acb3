import java.io.IOException;
import java.lang.reflect.InvocationTargetException;
import java.lang.reflect.Method;
import java.lang.reflect.Modifier;
import java.nio.file.Files;
import java.nio.file.Path;
import java.util.Set;
import java.util.TreeSet;
import java.util.regex.Matcher;
import java.util.regex.Pattern;

/** Makes the calls that README.md shows, in their order, and compares the answers behind them. */
public final class ReadmeTest {
    private static final String NEW_BOX = "PlanetaryGearbox box = new PlanetaryGearbox();";
    /** A call, the answer behind it, and perhaps a remark behind a colon. */
    private static final Pattern CALL = Pattern.compile(
            "box\\.(\\w+)\\(([-\\d, ]*)\\); *// (throws \\w+|[-\\w.]+)(: .*)?");
    private static final Pattern CONSTANT = Pattern.compile("\\b([A-Z]{4,}) = (-?\\d+)");

    private static PlanetaryGearbox box;
    private static final Set<String> CALLED = new TreeSet<>();

    public static void main(String[] args) throws IOException, ReflectiveOperationException {
        String text = Files.readString(Path.of("README.md"));
        boolean inJava = false;
        for (String line : text.split("\n")) {
            if (line.startsWith("```")) {
                inJava = line.equals("```java");
            } else if (inJava) {
                checkLine(line);
            }
        }
        checkAllCalled();
        checkConstants(text);
        Check.finish();
    }

    private static void checkLine(String line) throws ReflectiveOperationException {
        if (line.equals(NEW_BOX)) {
            box = new PlanetaryGearbox();
            return;
        }
        Matcher call = CALL.matcher(line);
        boolean understood = call.matches();
        Check.isTrue("a call and its answer: " + line, understood);
        if (understood) {
            Check.equalText(line, answer(call.group(1), call.group(2)), due(call.group(3)));
        }
    }

    /** The answer that a line shows, with the number of a constant in the place of its name. */
    private static String due(String shown) throws ReflectiveOperationException {
        if (!shown.matches("[A-Z]+")) {
            return shown;
        }
        return String.valueOf(PlanetaryGearbox.class.getField(shown).getInt(null));
    }

    private static String answer(String name, String arguments)
            throws ReflectiveOperationException {
        Method method = methodOf(name);
        CALLED.add(name);
        try {
            Object got = method.invoke(box, numbers(arguments));
            return got == null ? "nothing" : got.toString();
        } catch (InvocationTargetException thrown) {
            return "throws " + thrown.getCause().getClass().getSimpleName();
        }
    }

    private static Object[] numbers(String arguments) {
        if (arguments.isEmpty()) {
            return new Object[0];
        }
        String[] texts = arguments.split(", ");
        Object[] numbers = new Object[texts.length];
        for (int i = 0; i < texts.length; i++) {
            numbers[i] = Integer.valueOf(texts[i]);
        }
        return numbers;
    }

    private static Method methodOf(String name) throws NoSuchMethodException {
        for (Method method : PlanetaryGearbox.class.getDeclaredMethods()) {
            if (method.getName().equals(name) && Modifier.isPublic(method.getModifiers())) {
                return method;
            }
        }
        throw new NoSuchMethodException(name);
    }

    /** README.md shows every method of the face. */
    private static void checkAllCalled() {
        Set<String> face = new TreeSet<>();
        for (Method method : PlanetaryGearbox.class.getDeclaredMethods()) {
            if (Modifier.isPublic(method.getModifiers())) {
                face.add(method.getName());
            }
        }
        Check.equalText("methods shown", CALLED.toString(), face.toString());
    }

    private static void checkConstants(String text) throws ReflectiveOperationException {
        Set<String> shown = new TreeSet<>();
        Matcher constant = CONSTANT.matcher(text);
        while (constant.find()) {
            Check.equalText(constant.group(), due(constant.group(1)), constant.group(2));
            shown.add(constant.group(1));
        }
        Check.equalText("constants shown", shown.toString(),
                "[BLOCKED, DRIVING, NEUTRAL, NONE, STOPPED]");
    }
}
