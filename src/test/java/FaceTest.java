import java.lang.reflect.Constructor;
import java.lang.reflect.Field;
import java.lang.reflect.Method;
import java.lang.reflect.Modifier;
import java.util.Set;
import java.util.TreeSet;

/** The public face is the document's, and nothing else of the class can be reached from outside. */
public final class FaceTest {
    private static final Due DUE = new Due();

    public static void main(String[] args) {
        String[] methods = {
            "int about(int,int) IndexOutOfBoundsException IllegalStateException",
            "int back(int) IndexOutOfBoundsException IllegalStateException",
            "int code(int,int,int,int) IllegalStateException",
            "int collect(int) IllegalArgumentException",
            "int count(int) IndexOutOfBoundsException",
            "int get(int,int,int) IndexOutOfBoundsException IllegalStateException",
            "int keep(int) IndexOutOfBoundsException IllegalStateException",
            "int make(int,int,int,boolean) IndexOutOfBoundsException IllegalArgumentException",
            "int move(int,int) IndexOutOfBoundsException",
            "int push(int,int,int) IndexOutOfBoundsException IllegalArgumentException",
            "int put(int,int,int) IndexOutOfBoundsException IllegalStateException",
            "int root(int) IndexOutOfBoundsException",
            "int row(int,int) IndexOutOfBoundsException",
            "int run(int,int) IndexOutOfBoundsException IllegalArgumentException",
            "int scrap()",
            "int strong(int,int) IndexOutOfBoundsException",
            "int weak(int,int) IndexOutOfBoundsException",
            "int wish(int) IndexOutOfBoundsException",
            "int word(int) IndexOutOfBoundsException"};
        Set<String> due = new TreeSet<>(Set.of(methods));
        Set<String> got = new TreeSet<>();
        Set<String> publicNames = new TreeSet<>();
        Set<String> privateNames = new TreeSet<>();
        for (Method method : StoreNotes.class.getDeclaredMethods()) {
            if (Modifier.isPrivate(method.getModifiers())) {
                privateNames.add(method.getName());
            } else if (!method.isSynthetic()) {
                got.add(told(method));
                publicNames.add(method.getName());
            }
        }
        DUE.same("the methods", got.toString(), due.toString());
        privateNames.retainAll(publicNames);
        DUE.same("private methods with the name of a public one", privateNames.toString(), "[]");
        constructorsAndConstants();
        DUE.is("NONE", -1, () -> StoreNotes.NONE);
        DUE.end();
    }

    private static void constructorsAndConstants() {
        StringBuilder got = new StringBuilder(Modifier.toString(StoreNotes.class.getModifiers()));
        for (Constructor<?> constructor : StoreNotes.class.getDeclaredConstructors()) {
            got.append("; ").append(constructor.toGenericString());
        }
        for (Field field : StoreNotes.class.getDeclaredFields()) {
            if (!Modifier.isPrivate(field.getModifiers()) && !field.isSynthetic()) {
                got.append("; ").append(field.toGenericString());
            }
        }
        DUE.same("the class, its constructor and its constant", got.toString(), "public final; "
            + "public StoreNotes(int,int,int,int); public static final int StoreNotes.NONE");
    }

    private static String told(Method method) {
        StringBuilder text = new StringBuilder(method.getReturnType() + " " + method.getName() + "(");
        String comma = "";
        for (Class<?> type : method.getParameterTypes()) {
            text.append(comma).append(type);
            comma = ",";
        }
        text.append(')');
        for (Class<?> type : method.getExceptionTypes()) {
            text.append(' ').append(type.getSimpleName());
        }
        return text.toString();
    }
}
