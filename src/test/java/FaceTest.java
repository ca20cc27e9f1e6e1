import java.lang.reflect.Constructor;
import java.lang.reflect.Field;
import java.lang.reflect.Method;
import java.lang.reflect.Modifier;
import java.util.Set;
import java.util.TreeSet;

/** The public face: what the document tells, and nothing else that can be seen from outside. */
public final class FaceTest {

    private static final String[] FACE = {
        "int NONE",
        "LoadRoom(int, int, int)",
        "int piece(int, int, int, int) IllegalArgumentException IllegalStateException",
        "int turn(int, int) IndexOutOfBoundsException IllegalArgumentException",
        "int order(int, int) IndexOutOfBoundsException IllegalArgumentException",
        "int limit(int, int) IndexOutOfBoundsException IllegalArgumentException",
        "int fits(int) IndexOutOfBoundsException",
        "int pack(int) IllegalArgumentException",
        "boolean exact()",
        "int steps()",
        "int bound()",
        "int at(int, int) IndexOutOfBoundsException IllegalArgumentException",
        "long moment()",
        "int touch(int, int) IndexOutOfBoundsException",
        "int axle(int) IllegalArgumentException IllegalStateException",
        "long load(int, int) ArithmeticException IndexOutOfBoundsException IllegalArgumentException",
    };

    public static void main(String[] args) {
        Check.is("LoadRoom is public", Modifier.isPublic(LoadRoom.class.getModifiers()), true);
        Check.is("LoadRoom is final", Modifier.isFinal(LoadRoom.class.getModifiers()), true);
        Check.is("NONE", LoadRoom.NONE, -1);
        compareFaces();
        lookAtPrivateNames();
        lookInside();
        Check.end();
    }

    private static void compareFaces() {
        Set<String> due = new TreeSet<>(Set.of(FACE));
        Set<String> seen = membersThatAreSeen();
        if (!due.equals(seen)) {
            Check.tell("the face is " + seen + ", due is " + due);
        }
    }

    private static Set<String> membersThatAreSeen() {
        Set<String> seen = new TreeSet<>();
        for (Field field : LoadRoom.class.getDeclaredFields()) {
            if (!Modifier.isPrivate(field.getModifiers())) {
                seen.add(field.getType().getSimpleName() + " " + field.getName());
                Check.is(field.getName() + " is a public constant", field.getModifiers(),
                        Modifier.PUBLIC | Modifier.STATIC | Modifier.FINAL);
            }
        }
        for (Constructor<?> made : LoadRoom.class.getDeclaredConstructors()) {
            seen.add("LoadRoom" + names(made.getParameterTypes(), "(", ", ", ")")
                    + names(made.getExceptionTypes(), "", " ", ""));
        }
        for (Method method : LoadRoom.class.getDeclaredMethods()) {
            if (!Modifier.isPrivate(method.getModifiers())) {
                seen.add(method.getReturnType().getSimpleName() + " " + method.getName()
                        + names(method.getParameterTypes(), "(", ", ", ")")
                        + names(method.getExceptionTypes(), method.getExceptionTypes().length > 0 ? " " : "", " ", ""));
                Check.is(method.getName() + " is public", method.getModifiers(), Modifier.PUBLIC);
            }
        }
        return seen;
    }

    private static String names(Class<?>[] types, String before, String between, String behind) {
        StringBuilder text = new StringBuilder(before);
        for (int i = 0; i < types.length; i++) {
            text.append(i == 0 ? "" : between).append(types[i].getSimpleName());
        }
        return text.append(behind).toString();
    }

    private static void lookAtPrivateNames() {
        Set<String> open = new TreeSet<>();
        for (Method method : LoadRoom.class.getMethods()) {
            open.add(method.getName());
        }
        for (Method method : LoadRoom.class.getDeclaredMethods()) {
            if (Modifier.isPrivate(method.getModifiers()) && open.contains(method.getName())) {
                Check.tell("a private method bears the name of a public one: " + method.getName());
            }
        }
    }

    private static void lookInside() {
        for (Class<?> inside : LoadRoom.class.getDeclaredClasses()) {
            int marks = inside.getModifiers();
            if (Modifier.isPublic(marks) || Modifier.isProtected(marks) || !Modifier.isStatic(marks)) {
                Check.tell("a class inside is not private and static: " + inside.getName());
            }
        }
    }
}
