import java.lang.reflect.Constructor;
import java.lang.reflect.Field;
import java.lang.reflect.Method;
import java.lang.reflect.Modifier;
import java.util.Arrays;
import java.util.Set;
import java.util.TreeSet;

/** The public face, and rule 1 of LANGUAGE.md. */
final class FaceTest {
    private static final Set<String> METHODS = new TreeSet<>(Set.of(
        "int words(int, int) IllegalArgumentException IllegalStateException",
        "int compile()",
        "boolean start() IllegalStateException",
        "int key(int) IllegalArgumentException IllegalStateException",
        "int run(int) IllegalArgumentException IllegalStateException",
        "int shown(int) IndexOutOfBoundsException",
        "int global(int) IndexOutOfBoundsException",
        "int array(int, int) IndexOutOfBoundsException",
        "int about(int)"));
    private static final Set<String> NAMES = Set.of(
        "words", "compile", "start", "key", "run", "shown", "global", "array", "about");

    private static String told(Method method) {
        StringBuilder told = new StringBuilder(method.getReturnType() + " " + method.getName() + "(");
        String between = "";
        for (Class<?> type : method.getParameterTypes()) {
            told.append(between).append(type);
            between = ", ";
        }
        told.append(")");
        Arrays.stream(method.getExceptionTypes()).map(Class::getSimpleName).sorted()
            .forEach(name -> told.append(" ").append(name));
        return told.toString();
    }

    public static void main(String[] args) {
        Check check = new Check();
        int shape = ShortMill.class.getModifiers();
        check.due("public final", Modifier.isPublic(shape) && Modifier.isFinal(shape) ? 1 : 0, 1);
        Set<String> methods = new TreeSet<>();
        for (Method method : ShortMill.class.getDeclaredMethods()) {
            if (!Modifier.isPrivate(method.getModifiers())) {
                methods.add(told(method));
            } else {
                check.due("private " + method.getName(), NAMES.contains(method.getName()) ? 1 : 0, 0);
            }
        }
        System.out.println(methods.equals(METHODS) ? "the methods are as due" : "methods: " + methods);
        check.due("methods", methods.equals(METHODS) ? 1 : 0, 1);
        int seen = 0;
        for (Field field : ShortMill.class.getDeclaredFields()) {
            seen += Modifier.isPrivate(field.getModifiers()) ? 0 : 1;
            int is = field.getModifiers();
            check.due("static and not final: " + field.getName(),
                Modifier.isStatic(is) && !Modifier.isFinal(is) ? 1 : 0, 0);
        }
        check.due("fields that are not private", seen, 1);
        check.due("NONE", ShortMill.NONE, -1);
        Constructor<?>[] constructors = ShortMill.class.getDeclaredConstructors();
        check.due("constructors", constructors.length, 1);
        check.due("public constructor", constructors[0].getModifiers(), Modifier.PUBLIC);
        for (Class<?> inside : ShortMill.class.getDeclaredClasses()) {
            int is = inside.getModifiers();
            check.due(inside.getName() + " static", Modifier.isStatic(is) ? 1 : 0, 1);
            check.due(inside.getName() + " seen", Modifier.isPublic(is) || Modifier.isProtected(is) ? 1 : 0, 0);
            for (Method method : inside.getDeclaredMethods()) {
                check.due(inside.getName() + "." + method.getName(), NAMES.contains(method.getName()) ? 1 : 0, 0);
            }
        }
        check.end();
    }
}
