import java.lang.reflect.Constructor;
import java.lang.reflect.Field;
import java.lang.reflect.Method;
import java.lang.reflect.Modifier;
import java.util.Arrays;
import java.util.TreeSet;

/** The public face: just what the document lists, and nothing else that is not private. */
public final class FaceTest {
    private static final String B = "IndexOutOfBoundsException";
    private static final String A = "IllegalArgumentException";
    private static final String S = "IllegalStateException";

    private static final String[] METHODS = {
        "int person(int)" + B + S,
        "void follow(int,int)" + B + A + S,
        "void answer(int,int,boolean)" + B + S,
        "void leave(int,int)" + B + S,
        "void block(int,int,boolean)" + B + A + S,
        "void alias(int,int)" + B + A,
        "int move(int,int)" + B + S,
        "int post(int,int,int,int)" + B + A + S,
        "int delete(int)" + B + S,
        "void boost(int,int)" + B + S,
        "int deliver(int)" + B,
        "int repeat(int)" + B,
        "int ofServer(int,int)" + B + A,
        "int between(int,int,int)" + B,
        "boolean sees(int,int)" + B,
        "boolean seesAnew(int,int)" + B,
        "int home(int,int)" + B,
    };

    private static final String[] CONSTANTS = {
        "NONE=-1", "PUBLIC=0", "FOLLOWERS=1", "DIRECT=2", "FOLLOW=0", "ACCEPT=1", "REFUSE=2", "LEAVE=3",
        "BLOCK=4", "UNBLOCK=5", "ALIAS=6", "MOVE=7", "POST=8", "DELETE=9", "BOOST=10",
    };

    public static void main(String[] args) throws IllegalAccessException {
        Class<?> face = Villagepost.class;
        Checks.due("class is public and final",
            Modifier.isPublic(face.getModifiers()) && Modifier.isFinal(face.getModifiers()), true);
        Checks.due("methods", methods(face).toString(), new TreeSet<>(Arrays.asList(METHODS)).toString());
        Checks.due("constants", constants(face).toString(), new TreeSet<>(Arrays.asList(CONSTANTS)).toString());
        for (Constructor<?> c : face.getDeclaredConstructors()) {
            Checks.due("constructor " + c, Modifier.isPublic(c.getModifiers()) && c.getParameterCount() == 0, true);
        }
        for (Class<?> inside : face.getDeclaredClasses()) {
            Checks.due("static and private " + inside,
                Modifier.isStatic(inside.getModifiers()) && Modifier.isPrivate(inside.getModifiers()), true);
        }
        Checks.finish("FaceTest");
    }

    private static TreeSet<String> methods(Class<?> face) {
        TreeSet<String> found = new TreeSet<>();
        TreeSet<String> publicNames = new TreeSet<>();
        for (Method m : face.getDeclaredMethods()) {
            if (!Modifier.isPrivate(m.getModifiers())) {
                StringBuilder line = new StringBuilder(m.getReturnType().getName() + " " + m.getName() + "(");
                for (int i = 0; i < m.getParameterCount(); i++) {
                    line.append(i == 0 ? "" : ",").append(m.getParameterTypes()[i].getName());
                }
                line.append(")");
                for (Class<?> e : m.getExceptionTypes()) {
                    line.append(e.getSimpleName());
                }
                found.add(line.toString());
                publicNames.add(m.getName());
            }
        }
        for (Method m : face.getDeclaredMethods()) {
            if (Modifier.isPrivate(m.getModifiers())) {
                Checks.due("private method with a public name " + m, publicNames.contains(m.getName()), false);
            }
        }
        return found;
    }

    private static TreeSet<String> constants(Class<?> face) throws IllegalAccessException {
        TreeSet<String> found = new TreeSet<>();
        for (Field f : face.getDeclaredFields()) {
            if (!Modifier.isPrivate(f.getModifiers())) {
                Checks.due("constant " + f, Modifier.isStatic(f.getModifiers()) && Modifier.isFinal(f.getModifiers()), true);
                found.add(f.getName() + "=" + f.getInt(null));
            }
        }
        return found;
    }
}
