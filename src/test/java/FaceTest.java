import java.lang.reflect.Constructor;
import java.lang.reflect.Field;
import java.lang.reflect.Method;
import java.lang.reflect.Modifier;
import java.util.Arrays;
import java.util.Set;
import java.util.TreeSet;

/** The class has the document's face and nothing else that can be seen from outside. */
public final class FaceTest {
    private static final String[] METHODS = {
        "int above(int, int) IndexOutOfBoundsException",
        "int same(int, int) IndexOutOfBoundsException",
        "int phase(int, int) IndexOutOfBoundsException IllegalArgumentException",
        "boolean hide(int, boolean) IndexOutOfBoundsException",
        "int group(int) IndexOutOfBoundsException",
        "int misfit(int, int) IndexOutOfBoundsException",
        "int draw(int) IllegalArgumentException",
        "int crossings(int) IndexOutOfBoundsException IllegalStateException",
        "int at(int, int) IndexOutOfBoundsException IllegalStateException",
        "int links() IllegalStateException",
        "int link(int, int) IndexOutOfBoundsException IllegalStateException",
        "int command(int) IndexOutOfBoundsException IllegalStateException",
        "int count(int) IndexOutOfBoundsException",
    };

    public static void main(String[] args) {
        Checks checks = new Checks("face");
        Class<?> face = MatrixSheets.class;
        checks.equal("the class", "public final", Modifier.toString(face.getModifiers()));
        checks.equal("the methods", new TreeSet<>(Arrays.asList(METHODS)).toString(), seenMethods(face).toString());
        checks.equal("the fields", "[public static final int NONE]", seenFields(face).toString());
        Constructor<?>[] made = face.getDeclaredConstructors();
        checks.equal("how many constructors", "1", String.valueOf(made.length));
        checks.equal("the constructor", "public MatrixSheets()", made[0].toString());
        checks.equal("NONE", "-1", String.valueOf(MatrixSheets.NONE));
        checks.equal("private methods with a public one's name", "[]", sharedNames(face).toString());
        checks.end();
    }

    private static Set<String> seenMethods(Class<?> face) {
        Set<String> seen = new TreeSet<>();
        for (Method method : face.getDeclaredMethods()) {
            if (!Modifier.isPrivate(method.getModifiers())) {
                seen.add(describe(method));
            }
        }
        return seen;
    }

    private static String describe(Method method) {
        StringBuilder text = new StringBuilder(method.getReturnType().getSimpleName());
        text.append(' ').append(method.getName()).append('(');
        for (int i = 0; i < method.getParameterTypes().length; i++) {
            text.append(i == 0 ? "" : ", ").append(method.getParameterTypes()[i].getSimpleName());
        }
        text.append(')');
        for (Class<?> thrown : method.getExceptionTypes()) {
            text.append(' ').append(thrown.getSimpleName());
        }
        return text.toString();
    }

    private static Set<String> seenFields(Class<?> face) {
        Set<String> seen = new TreeSet<>();
        for (Field field : face.getDeclaredFields()) {
            if (!Modifier.isPrivate(field.getModifiers())) {
                seen.add(Modifier.toString(field.getModifiers()) + " " + field.getType() + " " + field.getName());
            }
        }
        return seen;
    }

    private static Set<String> sharedNames(Class<?> face) {
        Set<String> open = new TreeSet<>();
        for (Method method : face.getMethods()) {
            if (method.getDeclaringClass() == face) {
                open.add(method.getName());
            }
        }
        Set<String> shared = new TreeSet<>();
        addSharedNames(face, open, shared);
        for (Class<?> inside : face.getDeclaredClasses()) {
            addSharedNames(inside, open, shared);
        }
        return shared;
    }

    private static void addSharedNames(Class<?> holder, Set<String> open, Set<String> shared) {
        for (Method method : holder.getDeclaredMethods()) {
            if (!Modifier.isPublic(method.getModifiers()) && open.contains(method.getName())) {
                shared.add(holder.getSimpleName() + "." + method.getName());
            }
        }
    }
}
