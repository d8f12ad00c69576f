import java.lang.reflect.Constructor;
import java.lang.reflect.Field;
import java.lang.reflect.Member;
import java.lang.reflect.Method;
import java.lang.reflect.Modifier;
import java.util.ArrayList;
import java.util.Arrays;
import java.util.HashSet;
import java.util.List;
import java.util.Set;
import java.util.TreeSet;

/** The class has the document's face and nothing else that can be seen from outside. */
public final class FaceTest {
    private static final String IA = " throws IllegalArgumentException";
    private static final String[] FACE = {
        "void room(int, int)" + IA + ", IllegalStateException",
        "int lesson(int, int, int, int, int, int)" + IA + ", IllegalStateException",
        "void block(int, int, int, boolean)" + IA + ", IllegalStateException",
        "int place(int, int, int)" + IA + ", IllegalStateException",
        "int drop(int, int)" + IA + ", IllegalStateException",
        "int fill(int)" + IA,
        "int tries()",
        "int period(int, int)" + IA,
        "int roomOf(int, int)" + IA,
        "int penalty()",
        "int improve(int)" + IA,
        "int absent(int, int)" + IA,
        "int substitute(int) throws IndexOutOfBoundsException",
        "int undo() throws IllegalStateException",
        "int page(int, int, int)" + IA + ", IndexOutOfBoundsException",
    };

    public static void main(String[] args) {
        Class<?> desk = TimetableDesk.class;
        Check.due("modifiers", "public final", Modifier.toString(desk.getModifiers()));
        Check.due("public methods", new TreeSet<>(Arrays.asList(FACE)).toString(), publicMethods(desk).toString());
        Check.due("public constructors", "[(int, int)]", constructors(desk).toString());
        for (Field field : desk.getDeclaredFields()) {
            Check.due("private " + field.getName(), true, isPrivate(field));
        }
        checkNames(desk);
        Check.end();
    }

    private static Set<String> publicMethods(Class<?> desk) {
        Set<String> found = new TreeSet<>();
        for (Method method : desk.getDeclaredMethods()) {
            if (!isPrivate(method)) {
                String thrown = names(method.getExceptionTypes());
                found.add(method.getReturnType().getSimpleName() + " " + method.getName()
                        + "(" + names(method.getParameterTypes()) + ")"
                        + (thrown.isEmpty() ? "" : " throws " + thrown));
            }
        }
        return found;
    }

    private static List<String> constructors(Class<?> desk) {
        List<String> found = new ArrayList<>();
        for (Constructor<?> constructor : desk.getDeclaredConstructors()) {
            found.add("(" + names(constructor.getParameterTypes()) + ")");
        }
        return found;
    }

    private static void checkNames(Class<?> desk) {
        Set<String> face = new HashSet<>();
        for (Method method : desk.getMethods()) {
            face.add(method.getName());
        }
        List<Class<?>> all = new ArrayList<>(Arrays.asList(desk.getDeclaredClasses()));
        all.add(desk);
        for (Class<?> each : all) {
            Check.due(each + " is static or the desk", true,
                    each == desk || Modifier.isStatic(each.getModifiers()));
            for (Method method : each.getDeclaredMethods()) {
                boolean hidden = each != desk || isPrivate(method);
                Check.due(method + " bears a public name", false, hidden && face.contains(method.getName()));
            }
        }
    }

    private static boolean isPrivate(Member member) {
        return Modifier.isPrivate(member.getModifiers());
    }

    private static String names(Class<?>[] types) {
        StringBuilder text = new StringBuilder();
        for (Class<?> type : types) {
            text.append(text.length() == 0 ? "" : ", ").append(type.getSimpleName());
        }
        return text.toString();
    }
}
