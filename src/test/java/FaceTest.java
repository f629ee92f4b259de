import java.lang.reflect.Field;
import java.lang.reflect.Method;
import java.lang.reflect.Modifier;
import java.util.Arrays;
import java.util.HashSet;
import java.util.Set;
import java.util.TreeSet;

/** The class has the document's face and nothing else that can be seen from outside. */
public final class FaceTest {
    private static final String[] FACE = {
        "int feed 5", "int rules 1", "int rule 1", "int book 3", "boolean call 1", "boolean withdraw 1",
        "boolean kin 2", "boolean friend 2", "int load 0", "boolean mark 3", "int met 3", "int third 1",
        "boolean ballot 4", "boolean close 2", "boolean telling 2", "int told 4", "int counted 3", "int worth 3",
        "int paradox 2", "int look 2", "int count 1"
    };

    private FaceTest() {
    }

    public static void main(String[] args) {
        Check check = new Check();
        check.in("the face");
        Class<?> type = PrizeDesk.class;
        check.due("public", Modifier.isPublic(type.getModifiers()), true);
        check.due("final", Modifier.isFinal(type.getModifiers()), true);
        check.due("NONE", PrizeDesk.NONE, -1);
        check.due("constructors", type.getDeclaredConstructors().length, 1);
        check.due("public constructors", type.getConstructors().length, 1);
        methods(check, type);
        for (Field field : type.getDeclaredFields()) {
            check.due("private " + field.getName(), Modifier.isPrivate(field.getModifiers()),
                    !field.getName().equals("NONE"));
        }
        Set<String> names = new HashSet<>();
        for (Method method : type.getDeclaredMethods()) {
            if (Modifier.isPublic(method.getModifiers())) {
                names.add(method.getName());
            }
        }
        for (Class<?> inner : type.getDeclaredClasses()) {
            check.due("static " + inner, Modifier.isStatic(inner.getModifiers()), true);
            check.due("public " + inner, Modifier.isPublic(inner.getModifiers()), false);
            long fields = Arrays.stream(inner.getDeclaredFields())
                    .filter(field -> !Modifier.isStatic(field.getModifiers())).count();
            check.due("more than twenty fields in " + inner, fields > 20, false);
            for (Method method : inner.getDeclaredMethods()) {
                check.due(inner + "'s " + method.getName() + " named as in the face",
                        names.contains(method.getName()), false);
            }
        }
        check.due("at most twelve classes", type.getDeclaredClasses().length <= 12, true);
        check.end();
    }

    private static void methods(Check check, Class<?> type) {
        Set<String> found = new TreeSet<>();
        Set<String> names = new HashSet<>();
        for (Method method : type.getDeclaredMethods()) {
            if (Modifier.isPublic(method.getModifiers())) {
                found.add(method.getReturnType() + " " + method.getName() + " " + method.getParameterCount());
                names.add(method.getName());
                for (Class<?> parameter : method.getParameterTypes()) {
                    check.due(method.getName() + " takes ints", parameter == int.class, true);
                }
                check.due(method.getName() + " is an object's", Modifier.isStatic(method.getModifiers()), false);
            }
        }
        if (!found.equals(new TreeSet<>(Arrays.asList(FACE)))) {
            check.fail("the public methods are " + found);
        }
        for (Method method : type.getDeclaredMethods()) {
            if (!Modifier.isPublic(method.getModifiers())) {
                check.due("private " + method.getName(), Modifier.isPrivate(method.getModifiers()), true);
                check.due("own name " + method.getName(), names.contains(method.getName()), false);
                check.due("parameters of " + method.getName(), method.getParameterCount() <= 7, true);
            }
        }
    }
}
