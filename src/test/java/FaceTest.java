import java.lang.reflect.Constructor;
import java.lang.reflect.Field;
import java.lang.reflect.Method;
import java.lang.reflect.Modifier;
import java.util.Arrays;
import java.util.Set;
import java.util.TreeSet;

/** The document's public face, to the letter, and what LANGUAGE.md asks of the members of the class. */
public final class FaceTest {
    private static final String[] FACE = {
        "int policy(int, int, int, int) IllegalArgumentException UnsupportedOperationException IllegalStateException",
        "long outcome(int, int) NoSuchElementException IllegalArgumentException",
        "long image(int, long) NoSuchElementException",
        "long source(int, long) NoSuchElementException",
        "int filter(int) NoSuchElementException",
        "int same(int, int) NoSuchElementException",
        "int covers(int, int) NoSuchElementException",
        "int differ(int, int) NoSuchElementException UnsupportedOperationException",
        "int rules(int) NoSuchElementException",
        "int rule(int, int, int) NoSuchElementException IllegalArgumentException",
        "int match(int, int) NoSuchElementException IllegalArgumentException",
        "int hops(int, int, long) NoSuchElementException IllegalArgumentException",
        "int count(int) IllegalArgumentException",
    };

    public static void main(String[] args) {
        Class<?> face = PolicyVerifier.class;
        Checks.holds("the class is public and final", Modifier.isPublic(face.getModifiers()) && Modifier.isFinal(face.getModifiers()));
        Set<String> names = publicMethods(face);
        constructors(face);
        fields(face);
        for (Class<?> inside : face.getDeclaredClasses()) {
            classInside(inside, names);
        }
        Checks.end();
    }

    private static Set<String> publicMethods(Class<?> face) {
        Set<String> found = new TreeSet<>();
        Set<String> names = new TreeSet<>();
        for (Method method : face.getDeclaredMethods()) {
            if (Modifier.isPublic(method.getModifiers())) {
                found.add(told(method));
                names.add(method.getName());
            }
        }
        Checks.holds("the face is the document's: " + found, found.equals(new TreeSet<>(Arrays.asList(FACE))));
        for (Method method : face.getDeclaredMethods()) {
            boolean isFace = Modifier.isPublic(method.getModifiers());
            boolean isOwn = Modifier.isPrivate(method.getModifiers()) && !names.contains(method.getName());
            Checks.holds("method " + method.getName(), isFace || isOwn);
        }
        return names;
    }

    private static String told(Method method) {
        StringBuilder text = new StringBuilder();
        text.append(method.getReturnType().getSimpleName()).append(' ').append(method.getName()).append('(');
        String gap = "";
        for (Class<?> type : method.getParameterTypes()) {
            text.append(gap).append(type.getSimpleName());
            gap = ", ";
        }
        text.append(')');
        for (Class<?> thrown : method.getExceptionTypes()) {
            text.append(' ').append(thrown.getSimpleName());
        }
        return text.toString();
    }

    private static void constructors(Class<?> face) {
        Constructor<?>[] all = face.getDeclaredConstructors();
        Checks.holds("one public constructor without parameters",
                all.length == 1 && Modifier.isPublic(all[0].getModifiers()) && all[0].getParameterCount() == 0);
    }

    private static void fields(Class<?> owner) {
        for (Field field : owner.getDeclaredFields()) {
            boolean isStatic = Modifier.isStatic(field.getModifiers());
            Checks.holds("field " + field.getName() + " is private", Modifier.isPrivate(field.getModifiers()));
            Checks.holds("field " + field.getName() + " is no static state", !isStatic || Modifier.isFinal(field.getModifiers()));
        }
    }

    private static void classInside(Class<?> inside, Set<String> names) {
        int modifiers = inside.getModifiers();
        String name = inside.getSimpleName();
        Checks.holds(name + " is static and not open", Modifier.isStatic(modifiers) && !Modifier.isPublic(modifiers) && !Modifier.isProtected(modifiers));
        for (Method method : inside.getDeclaredMethods()) {
            Checks.holds(name + "." + method.getName(), !names.contains(method.getName()));
        }
        for (Field field : inside.getDeclaredFields()) {
            boolean isStatic = Modifier.isStatic(field.getModifiers());
            Checks.holds(name + "." + field.getName() + " is no static state", !isStatic || Modifier.isFinal(field.getModifiers()));
        }
    }
}
