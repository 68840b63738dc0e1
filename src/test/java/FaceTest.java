import java.lang.reflect.Constructor;
import java.lang.reflect.Field;
import java.lang.reflect.Method;
import java.lang.reflect.Modifier;
import java.util.Set;
import java.util.TreeSet;

/** The public face: what the document writes there, and nothing beside it. */
public final class FaceTest {
    private static final Set<String> METHODS = Set.of(
        "int set(int,int)",
        "boolean speed(int,int)",
        "int caller(int,int,int,int,int)",
        "boolean broken(int,int)",
        "int run(int)",
        "void clear()",
        "long count(int)",
        "int slot(int,int)",
        "int told(int,int) throws java.util.NoSuchElementException",
        "int event(int,int)",
        "long mean(int,int,int,int)",
        "int best(int,int,int)",
        "int crowd(int)",
        "int scatter()",
        "int states(int,int)",
        "int sure()");

    private FaceTest() {
    }

    public static void main(String[] args) {
        Check check = new Check("FaceTest");
        Class<?> face = LinePool.class;
        check.due("public and final", face.getModifiers(), Modifier.PUBLIC | Modifier.FINAL);

        Set<String> methods = new TreeSet<>();
        Set<String> publicNames = new TreeSet<>();
        for (Method m : face.getDeclaredMethods()) {
            if (!Modifier.isPrivate(m.getModifiers())) {
                methods.add(written(m));
                publicNames.add(m.getName());
            }
        }
        check.due("methods " + methods, methods.equals(METHODS), true);
        for (Method m : face.getDeclaredMethods()) {
            if (Modifier.isPrivate(m.getModifiers())) {
                check.due("private " + m.getName(), publicNames.contains(m.getName()), false);
            }
        }

        for (Field f : face.getDeclaredFields()) {
            boolean open = !Modifier.isPrivate(f.getModifiers());
            check.due("field " + f.getName(), open, f.getName().equals("NONE"));
            check.due("final " + f.getName(), Modifier.isFinal(f.getModifiers()), true);
        }
        Constructor<?>[] makers = face.getDeclaredConstructors();
        check.due("constructors", makers.length, 1);
        check.due("constructor's modifiers", makers[0].getModifiers(), Modifier.PUBLIC);
        check.due("constructor's parameters", makers[0].getParameterCount(), 0);
        check.end();
    }

    private static String written(Method m) {
        return m.toGenericString().replace("public ", "").replace("LinePool.", "");
    }
}
