import java.lang.reflect.Field;
import java.lang.reflect.Method;
import java.lang.reflect.Modifier;
import java.util.Set;
import java.util.TreeSet;

/** The face is the document's and nothing more, and no method inside bears one of its names (LANGUAGE.md, rule 1). */
public final class FaceTest {
    private static final Set<String> METHODS = Set.of("int bells(int)", "int method()", "int call(int,int)",
        "int touch()", "int add(int)", "int cut(int)", "int append(int)", "int clear()", "int fault(int)",
        "int bell(int,int)", "int change(int,int)", "int row(int,int)", "int path(int,int)", "int blows(int,int)",
        "int count(int)", "double music()", "int home(int)", "int homeCall(int)", "int ifCalled(int,int,int)",
        "int best()", "int undo()", "int save()", "int restore()");
    private static final Set<String> CONSTANTS = Set.of("INVALID_ARGUMENT", "NOT_POSSIBLE", "LIMIT_REACHED",
        "NOT_FOUND");

    private FaceTest() {
    }

    public static void main(String[] args) {
        Set<String> methods = new TreeSet<>();
        Set<String> names = new TreeSet<>();
        for (Method method : CalledTouches.class.getDeclaredMethods()) {
            if (!Modifier.isPrivate(method.getModifiers())) {
                methods.add(signature(method));
                names.add(method.getName());
            }
        }
        due("methods", methods, new TreeSet<>(METHODS));
        due("fields", openFields(), new TreeSet<>(CONSTANTS));
        due("constructors", CalledTouches.class.getConstructors().length, 1);
        due("names within", namesWithin(names), new TreeSet<>());
        System.out.println("FaceTest: the face is as due");
    }

    private static String signature(Method method) {
        StringBuilder types = new StringBuilder();
        for (Class<?> type : method.getParameterTypes()) {
            types.append(types.length() == 0 ? "" : ",").append(type.getName());
        }
        return method.getReturnType().getName() + " " + method.getName() + "(" + types + ")";
    }

    private static Set<String> openFields() {
        Set<String> open = new TreeSet<>();
        for (Field field : CalledTouches.class.getDeclaredFields()) {
            if (!Modifier.isPrivate(field.getModifiers())) {
                open.add(field.getName());
            }
        }
        return open;
    }

    private static Set<String> namesWithin(Set<String> faceNames) {
        Set<String> within = new TreeSet<>();
        for (Class<?> inside : CalledTouches.class.getDeclaredClasses()) {
            for (Method method : inside.getDeclaredMethods()) {
                if (faceNames.contains(method.getName())) {
                    within.add(inside.getName() + "." + method.getName());
                }
            }
        }
        for (Method method : CalledTouches.class.getDeclaredMethods()) {
            if (Modifier.isPrivate(method.getModifiers()) && faceNames.contains(method.getName())) {
                within.add(method.getName());
            }
        }
        return within;
    }

    private static void due(String what, Object got, Object due) {
        if (!got.equals(due)) {
            System.out.println(what + ": " + got + ", due are " + due);
            System.exit(1);
        }
    }
}
