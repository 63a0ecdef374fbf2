import java.lang.reflect.Constructor;
import java.lang.reflect.Field;
import java.lang.reflect.Method;
import java.lang.reflect.Modifier;
import java.util.Arrays;
import java.util.TreeSet;

/** The public face, with its throws clauses, and nothing else that can be reached from outside. */
public final class FaceTest {
    private static final String ARGUMENT = " throws IllegalArgumentException";
    private static final String STATE = " throws IllegalStateException";
    private static final String INDEX = " throws IndexOutOfBoundsException";
    private static final String[] FACE = {
        "int stroke(int)" + ARGUMENT + ",IllegalStateException", "int takeBack()" + STATE, "int fixAll()",
        "int setWindow(int)" + ARGUMENT, "int removeEntry(int)" + INDEX, "int renameEntry(int,int)" + INDEX,
        "int learn(int,int)" + INDEX + ",IllegalArgumentException,IllegalStateException",
        "int append(int)" + ARGUMENT + ",IllegalStateException", "int clearBuffer()", "int firstError()",
        "int load()" + ARGUMENT + ",IllegalStateException", "int undo()" + STATE,
        "int strokeAt(int,int)" + INDEX + ",IllegalArgumentException",
        "int item(int,int)" + INDEX + ",IllegalArgumentException",
        "int entry(int,int)" + INDEX + ",IllegalArgumentException", "int count(int)" + ARGUMENT,
        "int ifStroke(int,int)" + ARGUMENT, "int ifRemoved(int)" + INDEX, "int fewestStrokes()", "int readsBack()",
        "int shortest(int)" + INDEX, "double lettersPerStroke()", "long digest()"};

    public static void main(String[] args) {
        Class<?> desk = ChordDesk.class;
        Check.isTrue("the class is public and final",
            Modifier.isPublic(desk.getModifiers()) && Modifier.isFinal(desk.getModifiers()));
        Check.same("NONE", ChordDesk.NONE, -1);
        TreeSet<String> methods = new TreeSet<>();
        TreeSet<String> names = new TreeSet<>();
        for (Method method : desk.getDeclaredMethods()) {
            if (!Modifier.isPrivate(method.getModifiers())) {
                Check.isTrue(method + " is public", Modifier.isPublic(method.getModifiers()));
                methods.add(written(method));
                names.add(method.getName());
            }
        }
        Check.same("the face", methods, new TreeSet<>(Arrays.asList(FACE)));
        for (Method method : desk.getDeclaredMethods()) {
            Check.isTrue(method + " bears no name of the face",
                !Modifier.isPrivate(method.getModifiers()) || !names.contains(method.getName()));
        }
        constructorsAndFields(desk);
        Check.end("FaceTest");
    }

    private static void constructorsAndFields(Class<?> desk) {
        Constructor<?>[] constructors = desk.getDeclaredConstructors();
        Check.same("constructors", constructors.length, 1);
        Check.isTrue("the constructor is public and takes nothing",
            Modifier.isPublic(constructors[0].getModifiers()) && constructors[0].getParameterCount() == 0);
        for (Field field : desk.getDeclaredFields()) {
            Check.isTrue(field + " is hidden, but for NONE",
                Modifier.isPrivate(field.getModifiers()) != field.getName().equals("NONE"));
        }
    }

    private static String written(Method method) {
        StringBuilder text = new StringBuilder();
        text.append(method.getReturnType()).append(' ').append(method.getName()).append('(');
        text.append(list(method.getParameterTypes())).append(')');
        if (method.getExceptionTypes().length > 0) {
            text.append(" throws ").append(list(method.getExceptionTypes()));
        }
        return text.toString();
    }

    private static String list(Class<?>[] types) {
        StringBuilder text = new StringBuilder();
        for (Class<?> type : types) {
            text.append(text.length() > 0 ? "," : "").append(type.getSimpleName());
        }
        return text.toString();
    }
}
