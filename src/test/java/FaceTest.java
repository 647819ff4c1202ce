import java.lang.reflect.Constructor;
import java.lang.reflect.Field;
import java.lang.reflect.Method;
import java.lang.reflect.Modifier;
import java.util.Arrays;
import java.util.TreeSet;
import java.util.stream.Collectors;

/** The public face is the one of the document, and nothing else of the class can be seen from outside. */
public final class FaceTest {
    private static final String PLACE = "IndexOutOfBoundsException";
    private static final String PLACE_ARGUMENT = PLACE + ",IllegalArgumentException";
    private static final String PLACE_ARGUMENT_STATE = PLACE_ARGUMENT + ",IllegalStateException";

    private static final String[] METHODS = {
        "int add(int,int) " + PLACE_ARGUMENT_STATE,
        "boolean turn(int,int,int,int) " + PLACE_ARGUMENT,
        "int rename(int,int,int) " + PLACE_ARGUMENT,
        "int sync(int) " + PLACE,
        "int cards() ",
        "int values(int,int,int) " + PLACE_ARGUMENT,
        "int nameOf(int,int) " + PLACE_ARGUMENT,
        "int merged(int,int) " + PLACE_ARGUMENT,
        "int mergedByValues(int,int) " + PLACE_ARGUMENT,
        "int unsynced(int) " + PLACE,
        "int link(int,int) " + PLACE_ARGUMENT_STATE,
        "boolean cut(int,int) " + PLACE + ",IllegalStateException",
        "int group(int) " + PLACE,
        "int groups() ",
        "int preferred(int) " + PLACE,
        "int shown(int,int) " + PLACE_ARGUMENT,
        "int edit(int,int,int) " + PLACE_ARGUMENT,
        "int score(int,int) " + PLACE_ARGUMENT,
        "int pairs() ",
        "int pairAt(int) " + PLACE,
        "int turnDown(int,int,boolean) " + PLACE_ARGUMENT_STATE,
    };

    public static void main(String[] args) throws ReflectiveOperationException {
        Class<?> face = CardMerger.class;
        Checks.same("the class", Modifier.toString(face.getModifiers()), "public final");
        Checks.same("the methods", methodsOf(face), new TreeSet<>(Arrays.asList(METHODS)).toString());
        Checks.same("the constants", constantsOf(face),
                "[BASE=2, MAIL=1, MINE=0, NONE=-1, PHONE=0, THEIRS=1]");
        Checks.same("the constructors", constructorsOf(face), "[public CardMerger()]");
        Checks.same("private methods with a public name", doubledNamesOf(face), "[]");
        Checks.same("classes inside that are not static", inner(face), "[]");
        Checks.end("FaceTest");
    }

    private static String methodsOf(Class<?> face) {
        TreeSet<String> found = new TreeSet<>();
        for (Method method : face.getDeclaredMethods()) {
            if (!Modifier.isPrivate(method.getModifiers()) && !method.isSynthetic()) {
                found.add(describe(method));
            }
        }
        return found.toString();
    }

    private static String describe(Method method) {
        String kind = method.getModifiers() == Modifier.PUBLIC ? "" : "(not plainly public) ";
        return kind + method.getReturnType().getSimpleName() + " " + method.getName()
                + "(" + names(method.getParameterTypes()) + ") " + names(method.getExceptionTypes());
    }

    private static String names(Class<?>[] types) {
        return Arrays.stream(types).map(Class::getSimpleName).collect(Collectors.joining(","));
    }

    private static String constantsOf(Class<?> face) throws ReflectiveOperationException {
        TreeSet<String> found = new TreeSet<>();
        for (Field field : face.getDeclaredFields()) {
            if (!Modifier.isPrivate(field.getModifiers()) && !field.isSynthetic()) {
                boolean plain = Modifier.toString(field.getModifiers()).equals("public static final")
                        && field.getType() == int.class;
                found.add(field.getName() + (plain ? "=" + field.getInt(null) : " is no constant"));
            }
        }
        return found.toString();
    }

    private static String constructorsOf(Class<?> face) {
        TreeSet<String> found = new TreeSet<>();
        for (Constructor<?> constructor : face.getDeclaredConstructors()) {
            found.add(constructor.toString());
        }
        return found.toString();
    }

    private static String doubledNamesOf(Class<?> face) {
        TreeSet<String> open = new TreeSet<>();
        for (Method method : face.getMethods()) {
            open.add(method.getName());
        }
        TreeSet<String> doubled = new TreeSet<>();
        for (Method method : face.getDeclaredMethods()) {
            if (Modifier.isPrivate(method.getModifiers()) && open.contains(method.getName())) {
                doubled.add(method.getName());
            }
        }
        return doubled.toString();
    }

    private static String inner(Class<?> face) {
        TreeSet<String> found = new TreeSet<>();
        for (Class<?> inside : face.getDeclaredClasses()) {
            int modifiers = inside.getModifiers();
            if (!Modifier.isStatic(modifiers) || Modifier.isPublic(modifiers) || Modifier.isProtected(modifiers)) {
                found.add(inside.getSimpleName());
            }
        }
        return found.toString();
    }
}
