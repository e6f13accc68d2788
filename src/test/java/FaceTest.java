import java.lang.reflect.Constructor;
import java.lang.reflect.Field;
import java.lang.reflect.Member;
import java.lang.reflect.Method;
import java.lang.reflect.Modifier;
import java.util.Arrays;
import java.util.List;
import java.util.Set;
import java.util.TreeSet;
import java.util.stream.Collectors;

/** The public face: just what the document lists, with the exceptions that it names, and nothing else to be seen. */
public final class FaceTest {
    private static final Check CHECK = new Check();
    private static final List<String> FACE = List.of(
        "public boolean feed(int, int, int, int, int)",
        "public boolean end(int)",
        "public int load()",
        "public int fault(int)",
        "public int code(int) throws IndexOutOfBoundsException",
        "public int function(int, int)",
        "public int global(int, int)",
        "public int find(int) throws IllegalArgumentException",
        "public int give(int)",
        "public int forget()",
        "public boolean start(int, int, int)",
        "public int step()",
        "public int run(int) throws IllegalArgumentException",
        "public int result()",
        "public int register(int) throws IndexOutOfBoundsException",
        "public void set(int, int) throws IndexOutOfBoundsException",
        "public int word(int) throws IllegalArgumentException, IndexOutOfBoundsException",
        "public void poke(int, int) throws IllegalArgumentException, IndexOutOfBoundsException",
        "public int put(int) throws NoSuchElementException",
        "public int show(int)",
        "public int octet(int)",
        "public int work(int, int, int, int) throws NoSuchElementException, IllegalArgumentException",
        "public int told(int)",
        "public int worked(int) throws NoSuchElementException",
        "public int left(int, int) throws NoSuchElementException",
        "public int count(int)");

    public static void main(String[] args) throws IllegalAccessException {
        Class<?> face = PocketCompiler.class;
        CHECK.same("the class", Modifier.toString(face.getModifiers()), "public final");
        CHECK.same("what it extends", face.getSuperclass().getSimpleName(), "Object");
        CHECK.same("what it implements", face.getInterfaces().length, 0);
        constructors(face);
        methods(face);
        constants(face);
        classesInside(face);
        CHECK.end();
    }

    private static boolean isSeen(Member member) {
        return !Modifier.isPrivate(member.getModifiers()) && !member.isSynthetic();
    }

    private static String names(Class<?>[] types) {
        return Arrays.stream(types).map(Class::getSimpleName).collect(Collectors.joining(", "));
    }

    private static void constructors(Class<?> face) {
        CHECK.same("constructors", face.getDeclaredConstructors().length, 1);
        Constructor<?> constructor = face.getDeclaredConstructors()[0];
        CHECK.same("constructor", Modifier.toString(constructor.getModifiers()) + " (" + names(constructor.getParameterTypes())
            + ")" + names(constructor.getExceptionTypes()), "public (int)");
    }

    private static String spelled(Method method) {
        String thrown = names(method.getExceptionTypes());
        return Modifier.toString(method.getModifiers()) + " " + method.getReturnType().getSimpleName() + " " + method.getName()
            + "(" + names(method.getParameterTypes()) + ")" + (thrown.isEmpty() ? "" : " throws " + thrown);
    }

    private static void methods(Class<?> face) {
        Set<String> seen = new TreeSet<>();
        Set<String> names = new TreeSet<>();
        for (Method method : face.getDeclaredMethods()) {
            if (isSeen(method)) {
                seen.add(spelled(method));
            }
            CHECK.yes("one method alone has the name " + method.getName(), names.add(method.getName()));
        }
        CHECK.same("methods", String.join("\n", seen), String.join("\n", new TreeSet<>(FACE)));
    }

    private static void constants(Class<?> face) throws IllegalAccessException {
        for (Field field : face.getDeclaredFields()) {
            if (isSeen(field)) {
                CHECK.same("constant", Modifier.toString(field.getModifiers()) + " " + field.getType() + " " + field.getName()
                    + " " + field.getInt(null), "public static final int NONE -1");
            }
        }
        CHECK.same("NONE", PocketCompiler.NONE, -1);
    }

    private static void classesInside(Class<?> face) {
        for (Class<?> inside : face.getDeclaredClasses()) {
            int is = inside.getModifiers();
            CHECK.yes(inside + " is static", Modifier.isStatic(is));
            CHECK.no(inside + " is to be seen", Modifier.isPublic(is) || Modifier.isProtected(is));
            staticsAreFinal(inside);
        }
        staticsAreFinal(face);
    }

    private static void staticsAreFinal(Class<?> in) {
        for (Field field : in.getDeclaredFields()) {
            CHECK.yes(field + " is final, if it is static",
                !Modifier.isStatic(field.getModifiers()) || Modifier.isFinal(field.getModifiers()));
        }
    }
}
