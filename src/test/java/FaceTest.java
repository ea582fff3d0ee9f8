import java.lang.reflect.Constructor;
import java.lang.reflect.Field;
import java.lang.reflect.Method;
import java.lang.reflect.Modifier;
import java.util.Arrays;
import java.util.TreeSet;

/** The public face: the constants and methods of the document, and nothing beside them. */
public final class FaceTest {
    private static final String[] METHODS = {
        "int word(int, int, int) IllegalArgumentException IllegalStateException",
        "boolean call(int, int) IndexOutOfBoundsException IllegalArgumentException",
        "int poet() IllegalStateException",
        "void begin(int, int, int, int) IllegalArgumentException IllegalStateException",
        "int seat(int, int) IndexOutOfBoundsException IllegalArgumentException IllegalStateException",
        "int add(int) IndexOutOfBoundsException IllegalStateException",
        "int clear()",
        "int offer(int) IndexOutOfBoundsException IllegalStateException",
        "int why()",
        "int choose(int) IndexOutOfBoundsException",
        "int mend(int, int) IndexOutOfBoundsException IllegalStateException",
        "int give(int, int, int) IndexOutOfBoundsException IllegalArgumentException",
        "int copy(int) IndexOutOfBoundsException IllegalStateException",
        "int write(int, int, int, int) IndexOutOfBoundsException",
        "boolean hide(int, boolean) IndexOutOfBoundsException",
        "int links()",
        "int offers()",
        "int ofLink(int, int) IndexOutOfBoundsException IllegalArgumentException",
        "int wordAt(int, int) IndexOutOfBoundsException",
        "int faultAnew(int) IndexOutOfBoundsException",
        "int chances(int) IndexOutOfBoundsException",
        "int prize()",
        "int far(int, int) IndexOutOfBoundsException IllegalStateException",
        "int source(int) IndexOutOfBoundsException",
        "int hand(int) IndexOutOfBoundsException",
    };

    public static void main(String[] args) {
        Expect t = new Expect("FaceTest");
        t.is("class is public", Modifier.isPublic(RengaHall.class.getModifiers()), true);
        t.is("class is final", Modifier.isFinal(RengaHall.class.getModifiers()), true);
        t.same("methods", visibleMethods().toString(), new TreeSet<>(Arrays.asList(METHODS)).toString());
        t.same("constants", visibleFields().toString(),
                "[AUTUMN, BLOSSOM, MOON, NONE, SPRING, SUMMER, WINTER]");
        t.is("constructors", RengaHall.class.getDeclaredConstructors().length, 1);
        for (Constructor<?> constructor : RengaHall.class.getDeclaredConstructors()) {
            t.is("parameters", constructor.getParameterCount(), 0);
            t.is("constructor is public", Modifier.isPublic(constructor.getModifiers()), true);
        }
        t.is("NONE", RengaHall.NONE, -1);
        t.is("SPRING", RengaHall.SPRING, 0);
        t.is("SUMMER", RengaHall.SUMMER, 1);
        t.is("AUTUMN", RengaHall.AUTUMN, 2);
        t.is("WINTER", RengaHall.WINTER, 3);
        t.is("MOON", RengaHall.MOON, 8);
        t.is("BLOSSOM", RengaHall.BLOSSOM, 9);
        t.end();
    }

    private static TreeSet<String> visibleMethods() {
        TreeSet<String> found = new TreeSet<>();
        for (Method method : RengaHall.class.getDeclaredMethods()) {
            if (Modifier.isPrivate(method.getModifiers())) {
                continue;
            }
            StringBuilder text = new StringBuilder();
            text.append(method.getReturnType().getSimpleName()).append(' ').append(method.getName());
            String types = Arrays.toString(
                    Arrays.stream(method.getParameterTypes()).map(Class::getSimpleName).toArray());
            text.append('(').append(types, 1, types.length() - 1).append(')');
            for (Class<?> thrown : method.getExceptionTypes()) {
                text.append(' ').append(thrown.getSimpleName());
            }
            found.add(text.toString());
        }
        return found;
    }

    private static TreeSet<String> visibleFields() {
        TreeSet<String> found = new TreeSet<>();
        for (Field field : RengaHall.class.getDeclaredFields()) {
            if (!Modifier.isPrivate(field.getModifiers())) {
                found.add(field.getName());
            }
        }
        return found;
    }
}
