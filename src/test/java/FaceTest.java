import java.lang.reflect.Constructor;
import java.lang.reflect.Field;
import java.lang.reflect.Method;
import java.lang.reflect.Modifier;
import java.util.ArrayList;
import java.util.List;
import java.util.TreeSet;

/** The class has the document's face and no other member that can be seen from outside. */
public final class FaceTest {
    private static final String INDEX = "IndexOutOfBoundsException";
    private static final String ARGUMENT = "IllegalArgumentException";
    private static final String STATE = "IllegalStateException";
    private static final String[] METHODS = {
        "int addSet(int,int,int,int,int) " + INDEX + " " + ARGUMENT + " " + STATE,
        "int addBrake(int) " + INDEX + " " + STATE,
        "int addClutch(int,int) " + INDEX + " " + ARGUMENT + " " + STATE,
        "int setCapacity(int,int) " + INDEX + " " + ARGUMENT,
        "int count(int) " + ARGUMENT,
        "boolean engage(int) " + INDEX,
        "boolean release(int) " + INDEX,
        "int select(int) " + ARGUMENT,
        "boolean undo()",
        "int engaged()",
        "boolean brakesOnly()",
        "int state()",
        "long speed(int,int) " + INDEX + " " + ARGUMENT + " " + STATE,
        "long ratio(int) " + ARGUMENT + " " + STATE,
        "float ratioAsFloat() " + STATE,
        "long outputTorque(int) " + ARGUMENT + " " + STATE,
        "long torque(int,int) " + INDEX + " " + ARGUMENT + " " + STATE,
        "int slipping(int) " + ARGUMENT,
        "int greatestTorque() " + STATE,
        "int gear(int) " + INDEX,
        "int indexOf(int) " + ARGUMENT,
        "long gearRatio(int,int) " + INDEX + " " + ARGUMENT,
        "float step(int) " + INDEX,
        "int fewestShifts(int,int) " + INDEX,
        "int shift(int,int,int) " + INDEX,
        "void save(int) " + ARGUMENT,
        "void restore(int) " + ARGUMENT + " " + STATE,
    };

    public static void main(String[] args) {
        Class<?> face = PlanetaryGearbox.class;
        Check.equal("modifiers", face.getModifiers(), Modifier.PUBLIC | Modifier.FINAL);
        checkMethods(face);
        checkConstructors(face);
        checkFields(face);
        checkInside(face);
        Check.finish();
    }

    private static void checkMethods(Class<?> face) {
        List<String> shown = new ArrayList<>();
        TreeSet<String> publicNames = new TreeSet<>();
        for (Method method : face.getDeclaredMethods()) {
            if (!Modifier.isPrivate(method.getModifiers())) {
                Check.equal(method.getName(), method.getModifiers(), Modifier.PUBLIC);
                shown.add(describe(method));
                publicNames.add(method.getName());
            }
        }
        Check.equalText("methods", new TreeSet<>(shown).toString(),
                new TreeSet<>(List.of(METHODS)).toString());
        Check.equal("number of methods", shown.size(), METHODS.length);
        for (Method method : face.getDeclaredMethods()) {
            if (Modifier.isPrivate(method.getModifiers())) {
                Check.isFalse("private " + method.getName(), publicNames.contains(method.getName()));
            }
        }
    }

    private static String describe(Method method) {
        StringBuilder text = new StringBuilder();
        text.append(method.getReturnType().getName()).append(' ').append(method.getName()).append('(');
        for (int i = 0; i < method.getParameterCount(); i++) {
            text.append(i == 0 ? "" : ",").append(method.getParameterTypes()[i].getName());
        }
        text.append(')');
        for (Class<?> thrown : method.getExceptionTypes()) {
            text.append(' ').append(thrown.getSimpleName());
        }
        return text.toString();
    }

    private static void checkConstructors(Class<?> face) {
        Constructor<?>[] constructors = face.getDeclaredConstructors();
        Check.equal("constructors", constructors.length, 1);
        Check.equal("its modifiers", constructors[0].getModifiers(), Modifier.PUBLIC);
        Check.equal("its parameters", constructors[0].getParameterCount(), 0);
    }

    private static void checkFields(Class<?> face) {
        TreeSet<String> shown = new TreeSet<>();
        for (Field field : face.getDeclaredFields()) {
            int modifiers = field.getModifiers();
            if (!Modifier.isPrivate(modifiers)) {
                Check.equal(field.getName(), modifiers,
                        Modifier.PUBLIC | Modifier.STATIC | Modifier.FINAL);
                Check.equalText(field.getName(), field.getType().getName(), "int");
                shown.add(field.getName());
            }
            if (Modifier.isStatic(modifiers)) {
                Check.isTrue("final " + field.getName(), Modifier.isFinal(modifiers));
            }
        }
        Check.equalText("constants", shown.toString(), "[BLOCKED, DRIVING, NEUTRAL, NONE, STOPPED]");
    }

    private static void checkInside(Class<?> face) {
        Class<?>[] classes = face.getDeclaredClasses();
        Check.isTrue("at most some twelve classes", classes.length < 12);
        for (Class<?> inside : classes) {
            int modifiers = inside.getModifiers();
            Check.isTrue(inside.getName() + " is static", Modifier.isStatic(modifiers));
            Check.isFalse(inside.getName() + " is public", Modifier.isPublic(modifiers));
            Check.isFalse(inside.getName() + " is protected", Modifier.isProtected(modifiers));
            for (Field field : inside.getDeclaredFields()) {
                if (Modifier.isStatic(field.getModifiers())) {
                    Check.isTrue("final " + field.getName(), Modifier.isFinal(field.getModifiers()));
                }
            }
        }
    }
}
