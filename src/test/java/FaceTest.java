import java.lang.reflect.Constructor;
import java.lang.reflect.Field;
import java.lang.reflect.Method;
import java.lang.reflect.Modifier;
import java.util.ArrayList;
import java.util.Arrays;
import java.util.List;
import java.util.Set;
import java.util.TreeSet;

/** The class has the face of the document, and nothing else that can be seen from outside. */
public final class FaceTest {
    private static final Set<String> METHODS = new TreeSet<>(Arrays.asList(
        "issue()", "own()", "done(int, int, boolean)", "doAll(int)", "lose(int, int)", "again(int, int)",
        "hand(int, int, int, boolean)", "parcel(int, int)", "text(int)", "leaf(int, int, int)", "of(int, int)",
        "count(int)", "ifDone(int, int)", "ifAllDone(int)", "mending(int)", "rightFrom(int)", "put(long)",
        "wipe()", "fault()", "undo()", "save(int)", "restore(int)"));
    private static final List<String> CONSTANTS = Arrays.asList(
        "NO_SUCH", "BAD_VALUE", "BAD_TEXT", "TOO_MANY", "NOT_POSSIBLE", "NONE");

    private static final List<String> wrong = new ArrayList<>();

    public static void main(String[] args) throws Exception {
        Class<?> face = BinderParcels.class;
        due(face.getModifiers() == (Modifier.PUBLIC | Modifier.FINAL), "the class is public and final");
        due(face.getPackageName().isEmpty(), "no package");
        due(face.getSuperclass() == Object.class && face.getInterfaces().length == 0, "no other types");
        constructors(face);
        constants(face);
        methods(face);
        for (Class<?> inside : face.getDeclaredClasses()) {
            int modifiers = inside.getModifiers();
            due(Modifier.isStatic(modifiers), inside + " is static");
            due(!Modifier.isPublic(modifiers) && !Modifier.isProtected(modifiers), inside + " is hidden");
            due(inside.getDeclaredFields().length <= 20, inside + " has few fields");
        }
        due(face.getDeclaredClasses().length <= 12, "few classes");
        wrong.forEach(line -> System.out.println("not so: " + line));
        if (!wrong.isEmpty()) {
            System.exit(1);
        }
    }

    private static void due(boolean isSo, String what) {
        if (!isSo) {
            wrong.add(what);
        }
    }

    private static void constructors(Class<?> face) {
        Constructor<?>[] constructors = face.getDeclaredConstructors();
        due(constructors.length == 1 && constructors[0].getParameterCount() == 0
            && constructors[0].getModifiers() == Modifier.PUBLIC, "one public constructor without parameters");
    }

    private static void constants(Class<?> face) throws Exception {
        Set<String> seen = new TreeSet<>();
        for (Field field : face.getDeclaredFields()) {
            due(!Modifier.isStatic(field.getModifiers()) || Modifier.isFinal(field.getModifiers()),
                field + " is final");
            if (!Modifier.isPrivate(field.getModifiers())) {
                seen.add(field.getName());
                due(field.getModifiers() == (Modifier.PUBLIC | Modifier.STATIC | Modifier.FINAL)
                    && field.getType() == int.class
                    && field.getInt(null) == -1 - CONSTANTS.indexOf(field.getName()), field + " is as in the document");
            }
        }
        due(seen.equals(new TreeSet<>(CONSTANTS)), "the constants of the document, and no others: " + seen);
    }

    private static void methods(Class<?> face) {
        Set<String> seen = new TreeSet<>();
        Set<String> names = new TreeSet<>();
        METHODS.forEach(method -> names.add(method.substring(0, method.indexOf('('))));
        List<Method> hidden = new ArrayList<>();
        for (Method method : face.getDeclaredMethods()) {
            if (Modifier.isPrivate(method.getModifiers())) {
                hidden.add(method);
            } else {
                String types = Arrays.toString(method.getParameterTypes()).replace("[", "(").replace("]", ")");
                seen.add(method.getName() + types);
                due(method.getModifiers() == Modifier.PUBLIC && method.getReturnType() == int.class,
                    method + " is as in the document");
            }
        }
        due(seen.equals(METHODS), "the methods of the document, and no others: " + seen);
        for (Class<?> inside : face.getDeclaredClasses()) {
            hidden.addAll(Arrays.asList(inside.getDeclaredMethods()));
        }
        for (Method method : hidden) {
            due(!Modifier.isPrivate(method.getModifiers()) || !names.contains(method.getName()),
                method + " has a name of its own");
            due(method.getParameterCount() <= 7, method + " has few parameters");
        }
    }
}
