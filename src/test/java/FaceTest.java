import java.lang.reflect.Constructor;
import java.lang.reflect.Field;
import java.lang.reflect.Method;
import java.lang.reflect.Modifier;
import java.util.Arrays;
import java.util.TreeSet;

/** The public face: all that the document tells, and nothing else. */
public final class FaceTest {
    private static final String[] FACE = {
        "int bill(int,int,int) IllegalArgumentException IllegalStateException",
        "int line(int,int,int) IllegalArgumentException IllegalStateException",
        "int box(int,int,int) IllegalArgumentException IllegalStateException",
        "boolean on(int,int)",
        "boolean land(int,int)",
        "boolean arrive(int)",
        "int amend(int,int,int) IllegalArgumentException",
        "int title(int,int,int) IllegalArgumentException",
        "int order(int,int,int) IllegalArgumentException",
        "int split(int,int) IllegalArgumentException IllegalStateException",
        "boolean leg(int,int)",
        "int look(int,int) IndexOutOfBoundsException",
        "int seen(int,int) IndexOutOfBoundsException NoSuchElementException",
        "int waits(int)",
        "int like(int,int,int) IllegalArgumentException",
        "int count(int)",
    };

    public static void main(String[] args) {
        Expect expect = new Expect("the face");
        TreeSet<String> methods = new TreeSet<>();
        for (Method method : BillMatch.class.getDeclaredMethods()) {
            if (!Modifier.isPrivate(method.getModifiers())) {
                methods.add(written(method));
            }
        }
        expect.same("methods", new TreeSet<>(Arrays.asList(FACE)).toString(), methods.toString());

        TreeSet<String> fields = new TreeSet<>();
        for (Field field : BillMatch.class.getDeclaredFields()) {
            if (!Modifier.isPrivate(field.getModifiers())) {
                fields.add(Modifier.toString(field.getModifiers()) + " " + field.getType() + " " + field.getName());
            }
        }
        expect.same("constants", "[public static final int NONE]", fields.toString());

        Constructor<?>[] constructors = BillMatch.class.getDeclaredConstructors();
        expect.same("constructors", 1, constructors.length);
        expect.same("constructor", "public BillMatch()", constructors[0].toString());
        expect.same("class", Modifier.PUBLIC | Modifier.FINAL, BillMatch.class.getModifiers());
        expect.end();
    }

    private static String written(Method method) {
        StringBuilder text = new StringBuilder();
        text.append(method.getReturnType().getSimpleName()).append(' ').append(method.getName()).append('(');
        for (int i = 0; i < method.getParameterCount(); i++) {
            text.append(i == 0 ? "" : ",").append(method.getParameterTypes()[i].getSimpleName());
        }
        text.append(')');
        for (Class<?> thrown : method.getExceptionTypes()) {
            text.append(' ').append(thrown.getSimpleName());
        }
        return text.toString();
    }
}
