import java.lang.reflect.Constructor;
import java.lang.reflect.Field;
import java.lang.reflect.Method;
import java.lang.reflect.Modifier;
import java.util.ArrayList;
import java.util.Arrays;
import java.util.List;
import java.util.TreeSet;

/** The class has the document's public face, throws clauses too, and nothing beside it. */
final class FaceTest {
    private static final String[] FACE = {
        "int addDirectory(int, int) throws IndexOutOfBoundsException, IllegalArgumentException, IllegalStateException",
        "int setQuota(int, int) throws IndexOutOfBoundsException, IllegalArgumentException",
        "int make(int, int, int) throws IndexOutOfBoundsException, IllegalArgumentException, IllegalStateException",
        "int link(int, int) throws IndexOutOfBoundsException, IllegalStateException",
        "int unlink(int, int) throws IndexOutOfBoundsException, IllegalStateException",
        "int write(int, int) throws IndexOutOfBoundsException, IllegalArgumentException, IllegalStateException",
        "int read(int) throws IndexOutOfBoundsException, IllegalStateException",
        "int hold(int, int) throws IndexOutOfBoundsException, IllegalStateException",
        "int release(int) throws IndexOutOfBoundsException",
        "int fund(int, int) throws IndexOutOfBoundsException, IllegalArgumentException, IllegalStateException",
        "int pass(int) throws IllegalArgumentException, IllegalStateException",
        "int day()",
        "int directories()",
        "int files()",
        "int usage(int) throws IndexOutOfBoundsException",
        "int usageByWalking(int) throws IndexOutOfBoundsException",
        "int size(int) throws IndexOutOfBoundsException",
        "int home(int) throws IndexOutOfBoundsException",
        "int kept(int) throws IndexOutOfBoundsException",
        "int holders(int) throws IndexOutOfBoundsException",
        "int tier(int) throws IndexOutOfBoundsException",
        "int coins(int) throws IndexOutOfBoundsException",
        "int bill(int) throws IndexOutOfBoundsException",
    };

    public static void main(String[] args) {
        Checks checks = new Checks();
        int modifiers = HoldServer.class.getModifiers();
        checks.due("the class, public and final,", Modifier.toString(modifiers), "public final");

        Constructor<?>[] constructors = HoldServer.class.getDeclaredConstructors();
        checks.due("the number of constructors", constructors.length, 1);
        checks.due("the constructor", constructors[0].toString(), "public HoldServer()");

        TreeSet<String> open = new TreeSet<>();
        TreeSet<String> hidden = new TreeSet<>();
        TreeSet<String> publicNames = new TreeSet<>();
        for (Method method : HoldServer.class.getDeclaredMethods()) {
            if (Modifier.isPrivate(method.getModifiers())) {
                hidden.add(method.getName());
            } else {
                open.add(described(method));
                publicNames.add(method.getName());
            }
        }
        checks.due("the face", open.toString(), new TreeSet<>(Arrays.asList(FACE)).toString());
        hidden.retainAll(publicNames);
        checks.due("the private methods with a public name", hidden.toString(), "[]");

        for (Field field : HoldServer.class.getDeclaredFields()) {
            checks.due("the field " + field.getName(), Modifier.isPrivate(field.getModifiers()) ? "private" : "open", "private");
        }
        checks.end("FaceTest");
    }

    private static String described(Method method) {
        List<String> parameters = names(method.getParameterTypes());
        List<String> thrown = names(method.getExceptionTypes());
        String clause = thrown.isEmpty() ? "" : " throws " + String.join(", ", thrown);
        boolean plain = Modifier.toString(method.getModifiers()).equals("public");
        return (plain ? "" : "not just public: ") + method.getReturnType().getSimpleName() + " " + method.getName()
            + "(" + String.join(", ", parameters) + ")" + clause;
    }

    private static List<String> names(Class<?>[] types) {
        List<String> names = new ArrayList<>();
        for (Class<?> type : types) {
            names.add(type.getSimpleName());
        }
        return names;
    }
}
