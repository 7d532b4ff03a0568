import java.lang.reflect.Constructor;
import java.lang.reflect.Field;
import java.lang.reflect.Method;
import java.lang.reflect.Modifier;
import java.util.Set;
import java.util.TreeSet;

/** The public face: each constant, constructor and method of the document, and no other. */
public final class FaceTest {
    // Each method with its parameters: i an int, b a boolean.
    private static final Set<String> METHODS = Set.of("feed iiiii", "back i", "read ii", "place ", "person iii", "promise iiiiii",
        "gift iii", "says iib", "fame i", "comes iib", "fate iii", "leave iii", "degree ii", "gaps i", "law i", "proved ii",
        "barred ii", "state iii", "force iii", "bound iii", "goes iii", "owes iii", "changed iii", "count i");
    private static final Set<String> NAMES = names();
    private static final Check CHECK = new Check();

    private static final Class<?> FACE = PromiseCourt.class;

    public static void main(String[] args) {
        constant();
        methods();
        constructor();
        classesInside();
        CHECK.finish();
    }

    private static void constant() {
        CHECK.due("public final", FACE.getModifiers(), Modifier.PUBLIC | Modifier.FINAL);
        CHECK.due("NONE", PromiseCourt.NONE, -1);
        int constant = Modifier.PUBLIC | Modifier.STATIC | Modifier.FINAL;
        for (Field field : FACE.getDeclaredFields()) {
            boolean none = field.getName().equals("NONE");
            CHECK.due(field + " is open", Modifier.isPrivate(field.getModifiers()) ? 0 : 1, none ? 1 : 0);
            if (none) {
                CHECK.due("NONE is an int", field.getType() == int.class ? 1 : 0, 1);
                CHECK.due("NONE is a constant", field.getModifiers(), constant);
            }
        }
    }

    private static void methods() {
        Set<String> open = new TreeSet<>();
        for (Method method : FACE.getDeclaredMethods()) {
            if (Modifier.isPrivate(method.getModifiers())) {
                CHECK.due(method + " bears a name of the face", NAMES.contains(method.getName()) ? 1 : 0, 0);
            } else {
                open.add(describe(method));
                CHECK.due(method + " is public, and that alone", method.getModifiers(), Modifier.PUBLIC);
                CHECK.due(method + " answers an int", method.getReturnType() == int.class ? 1 : 0, 1);
            }
        }
        CHECK.due("the open methods " + open, open.equals(METHODS) ? 1 : 0, 1);
    }

    private static void constructor() {
        CHECK.due("constructors", FACE.getDeclaredConstructors().length, 1);
        for (Constructor<?> constructor : FACE.getDeclaredConstructors()) {
            CHECK.due("constructor's parameters", constructor.getParameterCount(), 0);
            CHECK.due("constructor is public", constructor.getModifiers(), Modifier.PUBLIC);
        }
    }

    private static void classesInside() {
        for (Class<?> inside : FACE.getDeclaredClasses()) {
            CHECK.due(inside + " is static", Modifier.isStatic(inside.getModifiers()) ? 1 : 0, 1);
            for (Method method : inside.getDeclaredMethods()) {
                CHECK.due(method + " bears a name of the face", NAMES.contains(method.getName()) ? 1 : 0, 0);
            }
        }
    }

    private static String describe(Method method) {
        StringBuilder made = new StringBuilder(method.getName()).append(' ');
        for (Class<?> type : method.getParameterTypes()) {
            made.append(type == int.class ? 'i' : type == boolean.class ? 'b' : '?');
        }
        return made.toString();
    }

    private static Set<String> names() {
        Set<String> names = new TreeSet<>();
        for (String method : METHODS) {
            names.add(method.substring(0, method.indexOf(' ')));
        }
        return names;
    }
}
