import java.lang.reflect.Constructor;
import java.lang.reflect.Field;
import java.lang.reflect.Method;
import java.lang.reflect.Modifier;
import java.util.Arrays;
import java.util.Set;
import java.util.TreeSet;

/** The public face is that of the document, and nothing else can be seen from outside. */
public final class FaceTest {
    private static final Set<String> METHODS = Set.of(
            "int vote int int int", "int include int", "int accuse int int", "int clear",
            "int propose int int", "int block int int", "int balance int int",
            "boolean punished int int", "int counted int int", "int ballot int int",
            "boolean give int int", "boolean hear int int", "boolean knows int int", "int head int",
            "int checkpoint int int", "boolean conflict int int", "int guilty int boolean",
            "int proof int");

    public static void main(String[] args) {
        Due.yes("the class is public and final",
                Modifier.isPublic(FinalityTree.class.getModifiers())
                        && Modifier.isFinal(FinalityTree.class.getModifiers()));
        constants();
        methods();
        constructors();
        classesInside();
        Due.end();
    }

    private static void constants() {
        Due.same("BAD", FinalityTree.BAD, -1);
        Due.same("FULL", FinalityTree.FULL, -2);
        Due.same("REFUSED", FinalityTree.REFUSED, -3);
        Set<String> seen = new TreeSet<>();
        for (Field field : FinalityTree.class.getDeclaredFields()) {
            if (!Modifier.isPrivate(field.getModifiers())) {
                seen.add(field.getName());
                Due.yes("public static int: " + field.getName(), field.getType() == int.class
                        && Modifier.isPublic(field.getModifiers()) && Modifier.isStatic(field.getModifiers()));
            }
            if (Modifier.isStatic(field.getModifiers())) {
                Due.yes("final: " + field.getName(), Modifier.isFinal(field.getModifiers()));
            }
        }
        Due.yes("visible fields: " + seen, seen.equals(Set.of("BAD", "FULL", "REFUSED")));
    }

    private static void methods() {
        Set<String> visible = new TreeSet<>();
        Set<String> publicNames = new TreeSet<>();
        for (Method method : FinalityTree.class.getDeclaredMethods()) {
            if (!Modifier.isPrivate(method.getModifiers())) {
                visible.add(written(method));
                Due.yes("public, and of the object: " + method.getName(),
                        Modifier.isPublic(method.getModifiers()) && !Modifier.isStatic(method.getModifiers()));
                publicNames.add(method.getName());
            }
        }
        Due.yes("visible methods: " + visible, visible.equals(METHODS));
        for (Method method : FinalityTree.class.getDeclaredMethods()) {
            if (Modifier.isPrivate(method.getModifiers())) {
                Due.no("a private method has a public name: " + method.getName(),
                        publicNames.contains(method.getName()));
            }
        }
    }

    private static String written(Method method) {
        StringBuilder text = new StringBuilder();
        text.append(method.getReturnType().getName()).append(' ').append(method.getName());
        for (Class<?> type : method.getParameterTypes()) {
            text.append(' ').append(type.getName());
        }
        return text.toString();
    }

    private static void constructors() {
        Constructor<?>[] all = FinalityTree.class.getDeclaredConstructors();
        Due.same("constructors", all.length, 1);
        Due.yes("the constructor is public", Modifier.isPublic(all[0].getModifiers()));
        Due.yes("its parameters", Arrays.equals(all[0].getParameterTypes(),
                new Class<?>[] {int.class, int.class, int.class}));
    }

    private static void classesInside() {
        for (Class<?> inside : FinalityTree.class.getDeclaredClasses()) {
            int modifiers = inside.getModifiers();
            Due.yes("static, and not to be seen from outside: " + inside.getName(), Modifier.isStatic(modifiers)
                    && !Modifier.isPublic(modifiers) && !Modifier.isProtected(modifiers));
        }
    }
}
