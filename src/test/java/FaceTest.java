import java.lang.reflect.Constructor;
import java.lang.reflect.Field;
import java.lang.reflect.Method;
import java.lang.reflect.Modifier;
import java.util.ArrayList;
import java.util.Arrays;
import java.util.List;
import java.util.Set;
import java.util.TreeSet;

/** "The public face": the class, its constructor and methods with their exact heads, and no other member. */
public final class FaceTest {
    private static final Class<?> TRACKER = ChangeTracker.class;

    private static final List<String> HEADS = List.of(
        "public int author(int) throws IllegalArgumentException",
        "public boolean track(boolean)",
        "public int insert(int, long, int)"
            + " throws IndexOutOfBoundsException, IllegalArgumentException, IllegalStateException",
        "public int erase(int, int) throws IndexOutOfBoundsException",
        "public int format(int, int, int) throws IndexOutOfBoundsException, IllegalArgumentException",
        "public int accept(int, int, int) throws IndexOutOfBoundsException, IllegalArgumentException",
        "public int reject(int, int, int) throws IndexOutOfBoundsException, IllegalArgumentException",
        "public void open() throws IllegalStateException",
        "public int close() throws IllegalStateException",
        "public int undo() throws IllegalStateException",
        "public int redo() throws IllegalStateException",
        "public int length(int)",
        "public int seen(int, int, int) throws IllegalArgumentException, IndexOutOfBoundsException",
        "public int mark(int, int) throws IndexOutOfBoundsException, IllegalArgumentException",
        "public int next(int, int) throws IndexOutOfBoundsException, IllegalArgumentException",
        "public int count(int)");

    public static void main(String[] args) {
        theClass();
        theConstructor();
        theMethods();
        noPrivateMethodHasAPublicName();
        noOtherMember();
        Check.end();
    }

    private static void theClass() {
        Check.is("the class", Modifier.toString(TRACKER.getModifiers()), "public final");
        Check.is("the package", TRACKER.getPackageName(), "");
        Check.is("the class above", TRACKER.getSuperclass().getSimpleName(), "Object");
        Check.is("its interfaces", TRACKER.getInterfaces().length, 0);
    }

    private static void theConstructor() {
        List<String> heads = new ArrayList<>();
        for (Constructor<?> constructor : TRACKER.getDeclaredConstructors()) {
            heads.add(Modifier.toString(constructor.getModifiers()) + types(constructor.getParameterTypes())
                + types(constructor.getExceptionTypes()));
        }
        Check.is("the constructors", heads.toString(), "[public[][]]");
    }

    private static void theMethods() {
        Set<String> heads = new TreeSet<>();
        for (Method method : TRACKER.getDeclaredMethods()) {
            if (!Modifier.isPrivate(method.getModifiers())) {
                heads.add(head(method));
            }
        }
        Check.is("the methods", String.join("\n", heads), String.join("\n", new TreeSet<>(HEADS)));
    }

    private static void noPrivateMethodHasAPublicName() {
        Set<String> names = new TreeSet<>();
        for (Method method : TRACKER.getDeclaredMethods()) {
            if (Modifier.isPublic(method.getModifiers())) {
                names.add(method.getName());
            }
        }
        for (Method method : TRACKER.getDeclaredMethods()) {
            if (Modifier.isPrivate(method.getModifiers())) {
                Check.is("a public method is named " + method.getName(), names.contains(method.getName()), false);
            }
        }
    }

    private static void noOtherMember() {
        for (Field field : TRACKER.getDeclaredFields()) {
            int how = field.getModifiers();
            Check.is(field.getName() + " is private", Modifier.isPrivate(how), true);
            Check.is(field.getName() + " is final, or not static", Modifier.isFinal(how) || !Modifier.isStatic(how), true);
        }
        for (Class<?> inside : TRACKER.getDeclaredClasses()) {
            int how = inside.getModifiers();
            Check.is(inside.getSimpleName() + " is static", Modifier.isStatic(how), true);
            Check.is(inside.getSimpleName() + " can be seen", Modifier.isPublic(how) || Modifier.isProtected(how), false);
        }
    }

    private static String head(Method method) {
        String thrown = types(method.getExceptionTypes()).replaceAll("[\\[\\]]", "");
        return Modifier.toString(method.getModifiers()) + " " + method.getReturnType().getSimpleName() + " "
            + method.getName() + types(method.getParameterTypes()).replace('[', '(').replace(']', ')')
            + (thrown.isEmpty() ? "" : " throws " + thrown);
    }

    private static String types(Class<?>[] types) {
        return Arrays.stream(types).map(Class::getSimpleName).toList().toString();
    }
}
