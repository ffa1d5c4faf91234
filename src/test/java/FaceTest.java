import java.lang.reflect.Constructor;
import java.lang.reflect.Executable;
import java.lang.reflect.Field;
import java.lang.reflect.Method;
import java.lang.reflect.Modifier;
import java.util.Arrays;
import java.util.TreeSet;

/** The public face is the document's, and nothing else can be seen from outside. */
public final class FaceTest {
    private static final String[] FACE = {
        "int size(int) IllegalArgumentException",
        "int rank()",
        "void unrank(int) IllegalArgumentException",
        "int rows(int,int) IllegalArgumentException",
        "void put(int,int) IndexOutOfBoundsException",
        "int note(int) IndexOutOfBoundsException",
        "int show(int) IllegalArgumentException",
        "int take(int) IllegalArgumentException IllegalStateException",
        "int mirror()",
        "int turn()",
        "int complement()",
        "int flip(int) IndexOutOfBoundsException",
        "int flips(int) IllegalArgumentException",
    };

    public static void main(String[] args) {
        Class<?> type = CatalanWeb.class;
        Checks.due("final and public", type.getModifiers(), Modifier.PUBLIC | Modifier.FINAL);
        Checks.due("constructors", type.getDeclaredConstructors().length, 1);
        for (Constructor<?> constructor : type.getDeclaredConstructors()) {
            Checks.due("constructor", Modifier.toString(constructor.getModifiers()) + arguments(constructor), "public()");
        }
        methods(type);
        for (Field field : type.getDeclaredFields()) {
            Checks.due(field.getName() + " is private", Modifier.isPrivate(field.getModifiers()), true);
        }
        nested(type);
        Checks.end();
    }

    private static void methods(Class<?> type) {
        TreeSet<String> open = new TreeSet<>();
        TreeSet<String> openNames = new TreeSet<>();
        TreeSet<String> hiddenNames = new TreeSet<>();
        for (Method method : type.getDeclaredMethods()) {
            if (Modifier.isPrivate(method.getModifiers())) {
                hiddenNames.add(method.getName());
            } else {
                Checks.due(method.getName(), method.getModifiers(), Modifier.PUBLIC);
                open.add(method.getReturnType() + " " + method.getName() + arguments(method));
                openNames.add(method.getName());
            }
        }
        Checks.due("the methods", open, new TreeSet<>(Arrays.asList(FACE)));
        hiddenNames.retainAll(openNames);
        Checks.due("private methods with a public one's name", hiddenNames, new TreeSet<String>());
    }

    private static void nested(Class<?> type) {
        for (Class<?> inner : type.getDeclaredClasses()) {
            int modifiers = inner.getModifiers();
            Checks.due(inner.getName() + " is static", Modifier.isStatic(modifiers), true);
            Checks.due(inner.getName() + " is hidden", Modifier.isPublic(modifiers) || Modifier.isProtected(modifiers), false);
            for (Field field : inner.getDeclaredFields()) {
                boolean changing = Modifier.isStatic(field.getModifiers()) && !Modifier.isFinal(field.getModifiers());
                Checks.due(inner.getName() + "." + field.getName() + " is static state", changing, false);
            }
        }
    }

    private static String arguments(Executable executable) {
        StringBuilder text = new StringBuilder("(");
        for (Class<?> argument : executable.getParameterTypes()) {
            text.append(text.length() > 1 ? "," : "").append(argument.getName());
        }
        text.append(")");
        for (Class<?> thrown : executable.getExceptionTypes()) {
            text.append(" ").append(thrown.getSimpleName());
        }
        return text.toString();
    }
}
