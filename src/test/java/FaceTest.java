import java.lang.reflect.Constructor;
import java.lang.reflect.Field;
import java.lang.reflect.Method;
import java.lang.reflect.Modifier;
import java.util.Arrays;
import java.util.Set;
import java.util.TreeSet;

/** The public face, and what rules 1, 5 and 11 of LANGUAGE.md say of the class's members. */
public final class FaceTest {
    private static final String ILLEGAL = " throws IllegalArgumentException";
    private static final Set<String> FACE = Set.of(
        "int word(int)", "int clear()", "void begin()", "void rule(int, int, int, int, int)" + ILLEGAL,
        "int cache(int)" + ILLEGAL, "void set(int, int, int)" + ILLEGAL, "void poke(int, int, int)" + ILLEGAL,
        "int input(int, int)", "int run(int)" + ILLEGAL, "long register(int)" + ILLEGAL,
        "long memory(int)" + ILLEGAL, "long output(int) throws IndexOutOfBoundsException",
        "int told(int)" + ILLEGAL);

    public static void main(String[] args) {
        Class<?> face = LabelledCore.class;
        Check.due("modifiers", Modifier.PUBLIC | Modifier.FINAL, face.getModifiers());
        Check.due("NONE", -1, LabelledCore.NONE);
        methods(face);
        fields(face);
        constructors(face);
        nested(face);
        Check.end();
    }

    private static String signature(Method method) {
        StringBuilder text = new StringBuilder(method.getReturnType() + " " + method.getName() + "(");
        String between = "";
        for (Class<?> type : method.getParameterTypes()) {
            text.append(between).append(type);
            between = ", ";
        }
        text.append(")");
        for (Class<?> type : method.getExceptionTypes()) {
            text.append(" throws ").append(type.getSimpleName());
        }
        return text.toString();
    }

    private static void methods(Class<?> face) {
        Set<String> found = new TreeSet<>();
        Set<String> names = new TreeSet<>();
        for (Method method : face.getDeclaredMethods()) {
            if (Modifier.isPublic(method.getModifiers())) {
                found.add(signature(method));
                names.add(method.getName());
            }
        }
        Check.holds("the public methods are those of the document: " + found, found.equals(FACE));
        for (Method method : face.getDeclaredMethods()) {
            if (!Modifier.isPublic(method.getModifiers())) {
                Check.holds(method + " is private", Modifier.isPrivate(method.getModifiers()));
                Check.holds(method + " bears no public name", !names.contains(method.getName()));
            }
        }
    }

    private static void fields(Class<?> face) {
        for (Field field : face.getDeclaredFields()) {
            boolean none = field.getName().equals("NONE");
            Check.due(field + " is public", none ? 1 : 0, Modifier.isPublic(field.getModifiers()) ? 1 : 0);
            Check.holds(field + " is private or NONE", none || Modifier.isPrivate(field.getModifiers()));
        }
    }

    private static void constructors(Class<?> face) {
        Constructor<?>[] all = face.getDeclaredConstructors();
        Check.due("constructors", 1, all.length);
        Check.holds("it is public", Modifier.isPublic(all[0].getModifiers()));
        Check.due("it takes nothing", 0, all[0].getParameterCount());
    }

    private static void nested(Class<?> face) {
        Class<?>[] inside = face.getDeclaredClasses();
        Check.holds("at most twelve classes", inside.length < 12);
        Class<?>[] all = Arrays.copyOf(inside, inside.length + 1);
        all[inside.length] = face;
        for (Class<?> one : all) {
            Check.holds(one + " is static", one == face || Modifier.isStatic(one.getModifiers()));
            Check.holds(one + " is not public", one == face || !Modifier.isPublic(one.getModifiers()));
            int own = 0;
            for (Field field : one.getDeclaredFields()) {
                boolean isStatic = Modifier.isStatic(field.getModifiers());
                own += isStatic ? 0 : 1;
                Check.holds(field + " is no changing static", !isStatic || Modifier.isFinal(field.getModifiers()));
            }
            Check.holds(one + " has some twenty fields", own <= 20);
            for (Method method : one.getDeclaredMethods()) {
                Check.holds(method + " takes at most seven", method.getParameterCount() <= 7);
            }
        }
    }
}
