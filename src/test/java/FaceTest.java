import java.lang.reflect.Constructor;
import java.lang.reflect.Field;
import java.lang.reflect.Method;
import java.lang.reflect.Modifier;
import java.util.Arrays;
import java.util.TreeSet;

/** The public face: the document's constants, constructor and methods, and nothing more that can be seen from outside. */
public final class FaceTest {
    private static final String[] METHODS = {
        "int open(int,boolean)", "int add(int,int,int,int)", "int deploy()", "int invoke(int,int,int,int,int)",
        "int step(int)", "int flush()", "int snapshot()", "int scan(int,int)", "int crash()", "int answer(int)",
        "long output(int,int)", "long row(int)", "long replicated(int)", "int waiting(int)", "int rows(int)",
        "int count(int)"};
    private static final String[] CONSTANTS = {
        "int REFUSED -1", "int FULL -2", "int BAD -3", "int DONE 0", "int IDLE 0", "int RAN 1", "int STALLED 2",
        "int MARKED 3", "int FREE 0", "int PENDING 1", "int COMMITTED 2", "int ABORTED 3", "int LOST 4",
        "long NONE 1000000000000"};

    public static void main(String[] args) throws IllegalAccessException {
        Due due = new Due("FaceTest");
        Class<?> face = PartitionedProcedureStore.class;
        due.holds("the class is public and final", Modifier.isPublic(face.getModifiers())
            && Modifier.isFinal(face.getModifiers()));
        due.holds("methods " + methods(face), methods(face).equals(new TreeSet<>(Arrays.asList(METHODS))));
        due.holds("constants " + constants(face), constants(face).equals(new TreeSet<>(Arrays.asList(CONSTANTS))));
        Constructor<?>[] made = face.getDeclaredConstructors();
        due.holds("one public constructor of an int", made.length == 1 && Modifier.isPublic(made[0].getModifiers())
            && Arrays.equals(made[0].getParameterTypes(), new Class<?>[] {int.class}));
        due.end();
    }

    static TreeSet<String> names() {
        TreeSet<String> names = new TreeSet<>();
        for (Method m : PartitionedProcedureStore.class.getDeclaredMethods()) {
            if (Modifier.isPublic(m.getModifiers())) {
                names.add(m.getName());
            }
        }
        return names;
    }

    private static TreeSet<String> methods(Class<?> face) {
        TreeSet<String> seen = new TreeSet<>();
        for (Method m : face.getDeclaredMethods()) {
            if (Modifier.isPrivate(m.getModifiers()) || m.isSynthetic()) {
                continue;
            }
            StringBuilder text = new StringBuilder(m.getReturnType() + " " + m.getName() + "(");
            for (Class<?> type : m.getParameterTypes()) {
                text.append(text.charAt(text.length() - 1) == '(' ? "" : ",").append(type);
            }
            seen.add(text.append(")").toString());
        }
        return seen;
    }

    private static TreeSet<String> constants(Class<?> face) throws IllegalAccessException {
        TreeSet<String> seen = new TreeSet<>();
        for (Field f : face.getDeclaredFields()) {
            if (!Modifier.isPrivate(f.getModifiers()) && !f.isSynthetic()) {
                boolean constant = Modifier.isStatic(f.getModifiers()) && Modifier.isFinal(f.getModifiers());
                seen.add(f.getType() + " " + f.getName() + " " + (constant ? f.get(null) : "is no constant"));
            }
        }
        return seen;
    }
}
