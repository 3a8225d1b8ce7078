import java.lang.reflect.Constructor;
import java.lang.reflect.Field;
import java.lang.reflect.Method;
import java.lang.reflect.Modifier;
import java.util.Arrays;
import java.util.TreeSet;

/** The face: the class, its constant, its constructor and its methods, just as the document has them. */
public final class FaceTest {
    private static final Checks CHECK = new Checks();

    private static final String BOUNDS = " IndexOutOfBoundsException";
    private static final String ARGUMENT = " IllegalArgumentException";
    private static final String STATE = " IllegalStateException";

    private static final String[] METHODS = {
        "int turbine(int)" + BOUNDS + STATE,
        "int wind(int, int, int, boolean)" + ARGUMENT,
        "int waves(int, int)" + ARGUMENT,
        "int breaks(int)" + BOUNDS + STATE,
        "int crew(int, int)" + BOUNDS + ARGUMENT,
        "void repair(int, int, int)" + BOUNDS + ARGUMENT + STATE,
        "int sell(int, int, int)" + ARGUMENT + STATE,
        "int pass(int)" + ARGUMENT + STATE,
        "int windAt(int)" + BOUNDS,
        "int foretold(int)" + ARGUMENT,
        "int foretoldAnew(int)" + ARGUMENT,
        "int ofHour(int, int)" + ARGUMENT,
        "float ratio(int)" + ARGUMENT,
        "int ofBoat(int, int)" + BOUNDS + ARGUMENT,
        "int ofTurbine(int, int)" + BOUNDS + ARGUMENT,
        "long brought()",
    };

    public static void main(String[] args) {
        CHECK.dueText("the class", Modifier.toString(Turbineorchard.class.getModifiers()), "public final");
        CHECK.dueText("what it extends", Turbineorchard.class.getSuperclass().getName(), "java.lang.Object");
        CHECK.dueText("the methods", methods(), new TreeSet<>(Arrays.asList(METHODS)).toString());
        CHECK.dueText("the fields", fields(), "[public static final int NONE]");
        CHECK.dueText("the constructors", constructors(), "[public Turbineorchard()]");
        CHECK.dueText("private methods with public names", privateNamesakes(), "[]");
        CHECK.end("FaceTest");
    }

    private static String methods() {
        TreeSet<String> found = new TreeSet<>();
        for (Method method : Turbineorchard.class.getDeclaredMethods()) {
            if (Modifier.isPrivate(method.getModifiers())) {
                continue;
            }
            StringBuilder text = new StringBuilder();
            text.append(Modifier.toString(method.getModifiers()).replace("public", ""));
            text.append(method.getReturnType()).append(' ').append(method.getName()).append('(');
            String between = "";
            for (Class<?> type : method.getParameterTypes()) {
                text.append(between).append(type);
                between = ", ";
            }
            text.append(')');
            for (Class<?> type : method.getExceptionTypes()) {
                text.append(' ').append(type.getSimpleName());
            }
            found.add(text.toString());
        }
        return found.toString();
    }

    private static String fields() {
        TreeSet<String> found = new TreeSet<>();
        for (Field field : Turbineorchard.class.getDeclaredFields()) {
            if (!Modifier.isPrivate(field.getModifiers())) {
                found.add(Modifier.toString(field.getModifiers()) + " " + field.getType() + " " + field.getName());
            }
        }
        return found.toString();
    }

    private static String constructors() {
        TreeSet<String> found = new TreeSet<>();
        for (Constructor<?> constructor : Turbineorchard.class.getDeclaredConstructors()) {
            found.add(constructor.toString());
        }
        return found.toString();
    }

    private static String privateNamesakes() {
        TreeSet<String> names = new TreeSet<>();
        TreeSet<String> found = new TreeSet<>();
        for (Method method : Turbineorchard.class.getDeclaredMethods()) {
            if (Modifier.isPublic(method.getModifiers())) {
                names.add(method.getName());
            }
        }
        for (Class<?> inside : Turbineorchard.class.getDeclaredClasses()) {
            for (Method method : inside.getDeclaredMethods()) {
                if (names.contains(method.getName())) {
                    found.add(inside.getSimpleName() + "." + method.getName());
                }
            }
        }
        for (Method method : Turbineorchard.class.getDeclaredMethods()) {
            if (!Modifier.isPublic(method.getModifiers()) && names.contains(method.getName())) {
                found.add(method.getName());
            }
        }
        return found.toString();
    }
}
