import java.lang.reflect.Constructor;
import java.lang.reflect.Field;
import java.lang.reflect.Method;
import java.lang.reflect.Modifier;
import java.util.Arrays;
import java.util.Set;
import java.util.TreeSet;

/** The public face: just what the document lists; nothing else is to be seen, and no state is static. */
public final class FaceTest {
    private static final Check CHECK = new Check("FaceTest");

    private static final Set<String> FACE = Set.of(
            "int begin[]", "boolean emit[int]", "int end[]", "int procedures[]", "int bind[int, int, int]",
            "boolean unbind[int, int]", "int call[int, int, int]", "int value[]", "int count[int]", "int rows[int]",
            "int cell[int, int, int]");

    public static void main(String[] args) {
        CHECK.due("public and final", TriggerBase.class.getModifiers() == (Modifier.PUBLIC | Modifier.FINAL), true);
        constructors();
        methods();
        namesOfPrivateMethods();
        fields();
        classesInside();
        CHECK.finish();
    }

    private static void constructors() {
        Constructor<?>[] all = TriggerBase.class.getDeclaredConstructors();
        CHECK.due("constructors", all.length, 1);
        CHECK.due("parameters", all[0].getParameterCount(), 0);
        CHECK.due("public", Modifier.isPublic(all[0].getModifiers()), true);
    }

    private static void methods() {
        Set<String> seen = new TreeSet<>();
        for (Method method : TriggerBase.class.getDeclaredMethods()) {
            if (!Modifier.isPrivate(method.getModifiers())) {
                seen.add(method.getReturnType() + " " + method.getName() + Arrays.toString(method.getParameterTypes()));
                CHECK.due(method.getName() + " throws", method.getExceptionTypes().length, 0);
            }
        }
        CHECK.due("methods " + seen, seen.equals(FACE), true);
    }

    private static void namesOfPrivateMethods() {
        for (Method method : TriggerBase.class.getDeclaredMethods()) {
            boolean isPrivate = Modifier.isPrivate(method.getModifiers());
            CHECK.due(method.getName() + " is private and bears a public name", isPrivate && isOfFace(method), false);
        }
    }

    private static boolean isOfFace(Method method) {
        return FACE.stream().anyMatch(line -> line.contains(" " + method.getName() + "["));
    }

    private static void fields() {
        for (Field field : TriggerBase.class.getDeclaredFields()) {
            CHECK.due(field.getName() + " is private", Modifier.isPrivate(field.getModifiers()), true);
            CHECK.due(field.getName() + " is no static state", isStaticState(field), false);
        }
    }

    private static void classesInside() {
        for (Class<?> inside : TriggerBase.class.getDeclaredClasses()) {
            CHECK.due(inside + " is static", Modifier.isStatic(inside.getModifiers()), true);
            boolean isHidden = !Modifier.isPublic(inside.getModifiers()) && !Modifier.isProtected(inside.getModifiers());
            CHECK.due(inside + " is hidden", isHidden, true);
            for (Field field : inside.getDeclaredFields()) {
                CHECK.due(inside + "." + field.getName() + " is no static state", isStaticState(field), false);
            }
        }
    }

    private static boolean isStaticState(Field field) {
        return Modifier.isStatic(field.getModifiers()) && !Modifier.isFinal(field.getModifiers());
    }
}
