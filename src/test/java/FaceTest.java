import java.io.IOException;
import java.lang.reflect.Constructor;
import java.lang.reflect.Field;
import java.lang.reflect.Method;
import java.lang.reflect.Modifier;
import java.nio.file.Files;
import java.nio.file.Path;
import java.util.List;
import java.util.Set;
import java.util.TreeSet;
import java.util.stream.Collectors;
import java.util.stream.Stream;

/** The public face: what the document tells, and nothing else that can be seen from outside. */
public final class FaceTest {

    private static final String[] CALLS = {
        "public LoadRoom(int width, int height, int depth);",
        "public int piece(int width, int height, int depth, int weight)"
                + " throws IllegalArgumentException, IllegalStateException;",
        "public int turn(int piece, int marks) throws IndexOutOfBoundsException, IllegalArgumentException;",
        "public int order(int piece, int stop) throws IndexOutOfBoundsException, IllegalArgumentException;",
        "public int limit(int piece, int above) throws IndexOutOfBoundsException, IllegalArgumentException;",
        "public int fits(int piece) throws IndexOutOfBoundsException;",
        "public int pack(int steps) throws IllegalArgumentException;",
        "public boolean exact();",
        "public int steps();",
        "public int bound();",
        "public int at(int piece, int what) throws IndexOutOfBoundsException, IllegalArgumentException;",
        "public long moment();",
        "public int touch(int lower, int upper) throws IndexOutOfBoundsException;",
        "public int axle(int place) throws IllegalArgumentException, IllegalStateException;",
        "public long load(int axle, int part)"
                + " throws ArithmeticException, IndexOutOfBoundsException, IllegalArgumentException;",
    };

    private static String source = "";

    public static void main(String[] args) throws IOException {
        source = Files.readString(Path.of("src/main/java/LoadRoom.java")).replaceAll("\\s+", " ");
        Doc.open("The public face");
        Doc.says("public final class LoadRoom {", FaceTest::isPublicAndFinal);
        Doc.says("public static final int NONE = -1;", FaceTest::hasOneConstant);
        for (String call : CALLS) {
            Doc.says(call, () -> hasCall(call));
        }
        hasNothingElse();
        bearsNoPublicNameTwice();
        hidesItsClasses();
        Doc.end();
    }

    private static void isPublicAndFinal() {
        Check.is("public and final alone", LoadRoom.class.getModifiers(), Modifier.PUBLIC | Modifier.FINAL);
        Check.is("it extends Object alone", LoadRoom.class.getSuperclass() == Object.class, true);
        Check.is("interfaces", LoadRoom.class.getInterfaces().length, 0);
        Check.is("in no package", LoadRoom.class.getPackageName().isEmpty(), true);
    }

    private static void hasOneConstant() {
        List<Field> seen = Stream.of(LoadRoom.class.getDeclaredFields())
                .filter(it -> isSeen(it.getModifiers())).toList();
        Check.is("fields that can be seen", seen.size(), 1);
        for (Field field : seen) {
            Check.is(field + " is NONE", field.toString().equals("public static final int LoadRoom.NONE"), true);
        }
        Check.is("NONE", LoadRoom.NONE, -1);
    }

    /** The compiled class knows no names of parameters, so the text is asked too. */
    private static void hasCall(String call) {
        Check.is("the class has it", callsThatAreSeen().contains(withoutNames(call)), true);
        Check.is("it stands in the text", source.contains(call.replace(";", " {")), true);
    }

    private static void hasNothingElse() {
        Set<String> others = callsThatAreSeen();
        others.removeAll(Stream.of(CALLS).map(FaceTest::withoutNames).collect(Collectors.toSet()));
        Check.is("calls that the face does not have, " + others, others.size(), 0);
    }

    private static String withoutNames(String call) {
        return call.replaceAll("int \\w+([,)])", "int$1");
    }

    private static boolean isSeen(int marks) {
        return !Modifier.isPrivate(marks);
    }

    private static Set<String> callsThatAreSeen() {
        Set<String> seen = new TreeSet<>();
        for (Constructor<?> made : LoadRoom.class.getDeclaredConstructors()) {
            if (isSeen(made.getModifiers())) {
                seen.add(Modifier.toString(made.getModifiers()) + " LoadRoom"
                        + names("(", made.getParameterTypes(), ")") + thrown(made.getExceptionTypes()));
            }
        }
        for (Method method : LoadRoom.class.getDeclaredMethods()) {
            if (isSeen(method.getModifiers())) {
                seen.add(Modifier.toString(method.getModifiers()) + " " + method.getReturnType() + " "
                        + method.getName() + names("(", method.getParameterTypes(), ")")
                        + thrown(method.getExceptionTypes()));
            }
        }
        return seen;
    }

    private static String thrown(Class<?>[] types) {
        return types.length == 0 ? ";" : names(" throws ", types, ";");
    }

    private static String names(String before, Class<?>[] types, String behind) {
        return Stream.of(types).map(Class::getSimpleName).collect(Collectors.joining(", ", before, behind));
    }

    private static void bearsNoPublicNameTwice() {
        Set<String> open = Stream.of(LoadRoom.class.getMethods()).map(Method::getName).collect(Collectors.toSet());
        for (Method method : LoadRoom.class.getDeclaredMethods()) {
            if (!isSeen(method.getModifiers()) && open.contains(method.getName())) {
                Check.tell("a private method bears the name of a public one: " + method.getName());
            }
        }
    }

    private static void hidesItsClasses() {
        for (Class<?> inside : LoadRoom.class.getDeclaredClasses()) {
            int marks = inside.getModifiers();
            if (Modifier.isPublic(marks) || Modifier.isProtected(marks) || !Modifier.isStatic(marks)) {
                Check.tell("a class inside is not private and static: " + inside.getName());
            }
        }
    }
}
