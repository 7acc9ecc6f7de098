import java.lang.reflect.Constructor;
import java.lang.reflect.Field;
import java.lang.reflect.Method;
import java.lang.reflect.Modifier;
import java.util.Set;
import java.util.TreeSet;

/** The face: its constants, signatures and throws clauses, and nothing else that can be seen. */
public final class FaceTest {
    private static final String I = "IndexOutOfBoundsException";
    private static final String A = "IllegalArgumentException";
    private static final String S = "IllegalStateException";
    private static final String[] METHODS = {
        "int cam/1 " + A + " " + S,
        "int piece/4 " + I + " " + A + " " + S,
        "int lift/2 " + I + " " + A,
        "int steep/2 " + I + " " + A,
        "int jams/2 " + I + " " + A,
        "int ofCam/2 " + I + " " + A,
        "int letter/1 " + A + " " + S,
        "int link/1 " + A + " " + S,
        "int ofLink/2 " + I + " " + A,
        "int build/0 " + S,
        "void trace/3 " + I + " " + A,
        "int stuck/2 " + I,
        "int firstStuck/1 " + I,
        "boolean should/1 " + I,
        "int at/4 " + I + " " + A + " " + S,
        "int goes/3 " + I + " " + A + " " + S,
        "int area/2 " + I + " " + A + " " + S,
        "char sign/2 " + I,
        "void aim/3 " + I + " " + A,
        "int far/2 " + I + " " + A,
        "int best/0"};

    public static void main(String[] args) throws Exception {
        constants();
        methods();
        Check.due("final", Modifier.isFinal(CamWright.class.getModifiers()), true);
        Constructor<?>[] made = CamWright.class.getDeclaredConstructors();
        Check.due("one constructor", made.length, 1);
        Check.due("without arguments", made[0].getParameterCount(), 0);
        Check.due("public", Modifier.isPublic(made[0].getModifiers()), true);
        Check.finish("FaceTest");
    }

    private static void constants() throws Exception {
        String[] names = {"NONE", "FLAT", "LINE", "PARABOLA", "CUBIC", "UP", "DOWN", "FAR", "NEAR"};
        int[] due = {-1, 0, 1, 2, 3, 0, 1, 1, 2};
        for (int i = 0; i < names.length; i++) {
            Check.due(names[i], CamWright.class.getField(names[i]).getInt(null), due[i]);
        }
        int seen = 0;
        for (Field field : CamWright.class.getDeclaredFields()) {
            seen += Modifier.isPrivate(field.getModifiers()) ? 0 : 1;
        }
        Check.due("fields that can be seen", seen, names.length);
    }

    private static void methods() {
        Set<String> got = new TreeSet<>();
        Set<String> names = new TreeSet<>();
        for (Method method : CamWright.class.getDeclaredMethods()) {
            if (!Modifier.isPrivate(method.getModifiers())) {
                got.add(shape(method));
                names.add(method.getName());
            }
        }
        Set<String> want = new TreeSet<>(Set.of(METHODS));
        if (!got.equals(want)) {
            Check.fault("the methods are " + got + ", due is " + want);
        }
        for (Method method : CamWright.class.getDeclaredMethods()) {
            boolean hides = Modifier.isPrivate(method.getModifiers())
                && names.contains(method.getName());
            Check.due("a private method is named " + method.getName(), hides, false);
        }
    }

    private static String shape(Method method) {
        StringBuilder text = new StringBuilder();
        text.append(method.getReturnType().getName()).append(' ').append(method.getName());
        text.append('/').append(method.getParameterCount());
        for (Class<?> kind : method.getExceptionTypes()) {
            text.append(' ').append(kind.getSimpleName());
        }
        return text.toString();
    }
}
