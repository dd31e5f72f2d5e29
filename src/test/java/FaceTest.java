import java.lang.reflect.Constructor;
import java.lang.reflect.Field;
import java.lang.reflect.Method;
import java.lang.reflect.Modifier;
import java.util.Arrays;
import java.util.TreeSet;

/** The public face: its constants, its constructor and its methods, and nothing else that can be seen. */
public final class FaceTest {
    public static void main(String[] args) {
        Checks t = new Checks("face");
        TreeSet<String> methods = new TreeSet<>();
        for (Method m : SendBench.class.getDeclaredMethods()) {
            if (!Modifier.isPrivate(m.getModifiers())) {
                methods.add(m.getReturnType() + " " + m.getName() + Arrays.toString(m.getParameterTypes()));
            }
        }
        t.same("methods", methods.toString(), new TreeSet<>(Arrays.asList(
            "int cls[int, int]", "int token[int, int]", "int wipe[]", "int body[]", "int place[]",
            "boolean bind[int, int, int]", "boolean global[int, int]", "int create[int, int]",
            "int send[int, int, int, int]", "long result[]", "long read[int]", "long field[int, int]",
            "int finds[int, int]", "int reachable[]", "int says[]", "long said[int]", "int taken[int]")).toString());
        TreeSet<String> fields = new TreeSet<>();
        for (Field f : SendBench.class.getDeclaredFields()) {
            if (!Modifier.isPrivate(f.getModifiers())) fields.add(f.getType() + " " + f.getName());
        }
        t.same("constants", fields.toString(), new TreeSet<>(Arrays.asList(
            "int OK", "int STRANGE", "int KIND", "int DEAD", "int LONG", "int DEEP", "int FULL",
            "int BAD", "int SHAPE", "int NOROOM", "long NIL")).toString());
        Constructor<?>[] constructors = SendBench.class.getDeclaredConstructors();
        t.is("constructors", constructors.length, 1);
        t.is("constructor without arguments", constructors[0].getParameterCount(), 0);
        t.is("public final", SendBench.class.getModifiers(), Modifier.PUBLIC | Modifier.FINAL);
        t.is("OK", SendBench.OK, 0);
        t.is("STRANGE", SendBench.STRANGE, 1);
        t.is("KIND", SendBench.KIND, 2);
        t.is("DEAD", SendBench.DEAD, 3);
        t.is("LONG", SendBench.LONG, 4);
        t.is("DEEP", SendBench.DEEP, 5);
        t.is("FULL", SendBench.FULL, 6);
        t.is("BAD", SendBench.BAD, -1);
        t.is("SHAPE", SendBench.SHAPE, -2);
        t.is("NOROOM", SendBench.NOROOM, -3);
        t.is("NIL", SendBench.NIL, 10000000000L);
        t.end();
    }
}
