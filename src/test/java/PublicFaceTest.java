import java.lang.reflect.Constructor;
import java.lang.reflect.Field;
import java.lang.reflect.Method;
import java.lang.reflect.Modifier;
import java.util.TreeSet;

/** "The public face": each constant, constructor and method with its very types, and nothing beside them. */
public final class PublicFaceTest {
    private static final String[] METHODS = {
        "int feed(int, int, int, int, int)", "int end(int)", "int table(int)", "int way(int)", "int fault(int)",
        "int size(int, int)", "long cell(int, int, int)", "int copy(int, int)", "int fits(int, int)",
        "int step(int, int, int, int)", "int walk(int, int, int)", "int steps(int)", "int stepAt(int, int, int)",
        "int chain(int, int, int)", "int find(int, int, int, int, int)", "int found(int)", "int take(int, int)",
        "int part(int, int, int, int, int)", "int count(int)",
    };

    private static String types(Class<?>[] all) {
        StringBuilder s = new StringBuilder();
        for (Class<?> one : all) {
            s.append(s.length() == 0 ? "" : ", ").append(one);
        }
        return s.toString();
    }

    public static void main(String[] args) {
        Check.says("The public face", "public final class TableWays");
        int flags = TableWays.class.getModifiers();
        Check.due("public", Modifier.isPublic(flags) ? 1 : 0, 1);
        Check.due("final", Modifier.isFinal(flags) ? 1 : 0, 1);
        TreeSet<String> methods = new TreeSet<>();
        for (Method m : TableWays.class.getDeclaredMethods()) {
            if (!Modifier.isPrivate(m.getModifiers())) {
                methods.add(m.getReturnType() + " " + m.getName() + "(" + types(m.getParameterTypes()) + ")");
                Check.due(m.getName() + " is public and nothing more", m.getModifiers(), Modifier.PUBLIC);
            }
        }
        Check.due("methods", methods.toString(), new TreeSet<>(java.util.List.of(METHODS)).toString());
        TreeSet<String> constants = new TreeSet<>();
        for (Field f : TableWays.class.getDeclaredFields()) {
            if (!Modifier.isPrivate(f.getModifiers())) {
                constants.add(f.getType() + " " + f.getName());
                Check.due(f.getName() + " is a constant", f.getModifiers(), Modifier.PUBLIC | Modifier.STATIC | Modifier.FINAL);
            }
        }
        Check.due("constants", constants.toString(), "[int FULL, int NONE, int RANGE]");
        Constructor<?>[] constructors = TableWays.class.getDeclaredConstructors();
        Check.due("constructors", constructors.length, 1);
        Check.due("its numbers", types(constructors[0].getParameterTypes()), "");
        Check.due("it is public", constructors[0].getModifiers(), Modifier.PUBLIC);
        Check.end();
    }
}
