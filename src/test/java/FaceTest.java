import java.lang.reflect.Constructor;
import java.lang.reflect.Field;
import java.lang.reflect.Method;
import java.lang.reflect.Modifier;
import java.util.Arrays;
import java.util.Set;
import java.util.TreeSet;

/** The public face: the members that the document names, and no other that can be seen from outside. */
public final class FaceTest {

    private static final String[] FACE = {
        "int attempts(int) IndexOutOfBoundsException",
        "int calls()",
        "int cancel(int) IndexOutOfBoundsException IllegalStateException",
        "int credits(int) IndexOutOfBoundsException",
        "int deadline(int) IndexOutOfBoundsException",
        "int deliver(int) IllegalArgumentException IllegalStateException",
        "int frame(int, int) IndexOutOfBoundsException IllegalArgumentException",
        "int frameValue(int, int) IndexOutOfBoundsException IllegalArgumentException",
        "int frames(int) IllegalArgumentException",
        "int local(int, int) IllegalArgumentException IllegalStateException",
        "int lose(int) IllegalArgumentException IllegalStateException",
        "int now()",
        "int open(int, int, int, int) IndexOutOfBoundsException IllegalArgumentException IllegalStateException",
        "int outcome(int) IndexOutOfBoundsException",
        "int pass(int) IllegalArgumentException",
        "int received(int) IndexOutOfBoundsException",
        "int sum(int) IndexOutOfBoundsException",
        "int task(int) IndexOutOfBoundsException",
        "int tokens()",
        "int total()",
        "int value(int) IndexOutOfBoundsException IllegalStateException",
        "int work(int) IndexOutOfBoundsException IllegalStateException",
        "void grant(int, int) IndexOutOfBoundsException IllegalArgumentException IllegalStateException",
    };

    public static void main(String[] args) {
        Check.that("the class is public and final", FaceTest::classIsPublicAndFinal);
        Check.that("one public constructor without parameters", FaceTest::oneConstructor);
        Check.that("no field that is not private", FaceTest::fieldsArePrivate);
        Check.that("the public methods with their exceptions, and no other that is not private",
            FaceTest::methodsOfTheFace);
        Check.end();
    }

    private static void classIsPublicAndFinal() {
        if (Callgate.class.getModifiers() != (Modifier.PUBLIC | Modifier.FINAL)) {
            Check.fail("the class is " + Modifier.toString(Callgate.class.getModifiers()));
        }
    }

    private static void oneConstructor() {
        Constructor<?>[] made = Callgate.class.getDeclaredConstructors();
        if (made.length != 1 || made[0].getModifiers() != Modifier.PUBLIC || made[0].getParameterCount() != 0) {
            Check.fail("the constructors are " + Arrays.toString(made));
        }
    }

    private static void fieldsArePrivate() {
        for (Field field : Callgate.class.getDeclaredFields()) {
            if (!Modifier.isPrivate(field.getModifiers())) {
                Check.fail("a field that is not private: " + field);
            }
        }
    }

    private static void methodsOfTheFace() {
        Set<String> seen = new TreeSet<>();
        for (Method method : Callgate.class.getDeclaredMethods()) {
            if (method.getModifiers() == Modifier.PUBLIC) {
                seen.add(told(method));
            } else if (!Modifier.isPrivate(method.getModifiers())) {
                Check.fail("a method that is neither public nor private: " + method);
            }
        }
        Set<String> due = new TreeSet<>(Arrays.asList(FACE));
        if (!seen.equals(due)) {
            Check.fail("the face is " + seen + ", due is " + due);
        }
    }

    private static String told(Method method) {
        StringBuilder text = new StringBuilder();
        text.append(method.getReturnType().getSimpleName()).append(' ').append(method.getName()).append('(');
        for (int i = 0; i < method.getParameterCount(); i++) {
            text.append(i == 0 ? "" : ", ").append(method.getParameterTypes()[i].getSimpleName());
        }
        text.append(')');
        for (Class<?> thrown : method.getExceptionTypes()) {
            text.append(' ').append(thrown.getSimpleName());
        }
        return text.toString();
    }
}
