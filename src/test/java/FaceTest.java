import java.lang.reflect.Constructor;
import java.lang.reflect.Field;
import java.lang.reflect.Method;
import java.lang.reflect.Modifier;
import java.util.Set;
import java.util.TreeSet;

/** The public face, and promise 1: a new object has nobody and nothing. */
public final class FaceTest {
    private static final Set<String> NAMES = Set.of("feed", "back", "read", "place", "person", "promise", "gift", "says",
        "fame", "comes", "fate", "leave", "degree", "gaps", "law", "proved", "barred", "state", "force", "bound", "goes",
        "owes", "changed", "count");
    private static final Check CHECK = new Check();

    public static void main(String[] args) {
        face();
        newObject();
        objectsApart();
        CHECK.finish();
    }

    private static void face() {
        Class<?> face = PromiseCourt.class;
        CHECK.due("public final", face.getModifiers(), Modifier.PUBLIC | Modifier.FINAL);
        CHECK.due("NONE", PromiseCourt.NONE, -1);
        Set<String> seen = new TreeSet<>();
        for (Method method : face.getDeclaredMethods()) {
            boolean listed = NAMES.contains(method.getName());
            CHECK.due(method + " is of the face or private", Modifier.isPrivate(method.getModifiers()) ? 0 : 1, listed ? 1 : 0);
            if (listed && method.getReturnType() == int.class) {
                seen.add(method.getName());
            }
        }
        CHECK.due("methods of the face", seen.size(), NAMES.size());
        for (Field field : face.getDeclaredFields()) {
            boolean open = !Modifier.isPrivate(field.getModifiers());
            CHECK.due(field + " is open", open ? 1 : 0, field.getName().equals("NONE") ? 1 : 0);
        }
        for (Constructor<?> constructor : face.getDeclaredConstructors()) {
            CHECK.due("constructor's parameters", constructor.getParameterCount(), 0);
        }
        for (Class<?> inside : face.getDeclaredClasses()) {
            CHECK.due(inside + " is static", Modifier.isStatic(inside.getModifiers()) ? 1 : 0, 1);
            for (Method method : inside.getDeclaredMethods()) {
                CHECK.due(method + " bears a name of the face", NAMES.contains(method.getName()) ? 1 : 0, 0);
            }
        }
    }

    private static void newObject() {
        PromiseCourt court = new PromiseCourt();
        for (int what = 0; what < 6; what++) {
            CHECK.due("new: count(" + what + ")", court.count(what), 0);
        }
        CHECK.due("new: place", court.place(), -1);
        CHECK.due("new: back(0)", court.back(0), 0);
        CHECK.due("new: back(1)", court.back(1), -1);
        CHECK.due("new: degree", court.degree(0, 0), -1);
        CHECK.due("new: gaps", court.gaps(0), -1);
        CHECK.due("new: law", court.law(0), -1);
        CHECK.due("new: proved", court.proved(0, 0), -1);
        CHECK.due("new: barred", court.barred(0, 0), -1);
        CHECK.due("new: state", court.state(0, 0, 0), -1);
        CHECK.due("new: force", court.force(0, 0, 0), -3);
        CHECK.due("new: bound", court.bound(0, 0, 0), -1);
        CHECK.due("new: goes", court.goes(0, 0, 0), -1);
        CHECK.due("new: owes", court.owes(0, 0, 0), 0);
        CHECK.due("new: changed", court.changed(0, 0, 0), -1);
    }

    private static void objectsApart() {
        PromiseCourt one = new PromiseCourt();
        PromiseCourt other = new PromiseCourt();
        one.person(-1, -1, 0);
        one.feed(1, 2, 3, 4, 5);
        CHECK.due("another object's persons", other.count(0), 0);
        CHECK.due("another object's tape", other.count(5), 0);
    }
}
