import java.lang.reflect.Field;
import java.lang.reflect.Method;
import java.lang.reflect.Modifier;
import java.util.Arrays;
import java.util.TreeSet;

/** The class shows the document's face, and nothing else. */
public final class FaceTest {
    private static final String[] METHODS = {
        "int open(int,int)", "int close(int)", "int setWeight(int,int)", "int push(int,int)",
        "int edge(int,int,int)", "int commit()", "int revert(int)", "int witness(int,int,int)",
        "int send()", "int sendSome(int)", "int undo()", "int told(int)", "int stream(int,int)",
        "int frame(int,int,int)", "int log(int,int)", "int relation(int,int,int)", "int order(int,int)",
        "long lists(int)", "int keep(int)", "int back(int)"
    };
    private static final String[] CONSTANTS = {"BAD=-1", "STATE=-2", "FULL=-3", "CYCLE=-4", "NONE=-9"};

    public static void main(String[] args) throws ReflectiveOperationException {
        Class<?> face = StreamMultiplexer.class;
        Check.due("public", 1, Modifier.isPublic(face.getModifiers()) ? 1 : 0);
        Check.due("final", 1, Modifier.isFinal(face.getModifiers()) ? 1 : 0);
        Check.due("constructors", 1, face.getDeclaredConstructors().length);
        Check.due("public constructor", 1, Modifier.isPublic(face.getConstructor().getModifiers()) ? 1 : 0);
        checkSame("methods", METHODS, methodsOf(face));
        checkSame("constants", CONSTANTS, constantsOf(face));
        Check.finish();
    }

    private static TreeSet<String> methodsOf(Class<?> face) {
        TreeSet<String> found = new TreeSet<>();
        for (Method m : face.getDeclaredMethods()) {
            if (Modifier.isPrivate(m.getModifiers()) || m.isSynthetic()) {
                continue;
            }
            String parameters = Arrays.toString(Arrays.stream(m.getParameterTypes())
                    .map(Class::getName).toArray()).replace("[", "(").replace("]", ")").replace(" ", "");
            String modifiers = m.getModifiers() == Modifier.PUBLIC ? "" : Modifier.toString(m.getModifiers()) + " ";
            found.add(modifiers + m.getReturnType().getName() + " " + m.getName() + parameters);
        }
        return found;
    }

    private static TreeSet<String> constantsOf(Class<?> face) throws ReflectiveOperationException {
        TreeSet<String> found = new TreeSet<>();
        int constant = Modifier.PUBLIC | Modifier.STATIC | Modifier.FINAL;
        for (Field f : face.getDeclaredFields()) {
            if (Modifier.isPrivate(f.getModifiers()) || f.isSynthetic()) {
                continue;
            }
            boolean isConstant = f.getModifiers() == constant && f.getType() == int.class;
            found.add(isConstant ? f.getName() + "=" + f.getInt(null) : f.toString());
        }
        return found;
    }

    private static void checkSame(String what, String[] wanted, TreeSet<String> found) {
        TreeSet<String> due = new TreeSet<>(Arrays.asList(wanted));
        Check.due(what + " " + found, 1, due.equals(found) ? 1 : 0);
    }
}
