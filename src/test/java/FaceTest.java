import java.lang.reflect.Constructor;
import java.lang.reflect.Field;
import java.lang.reflect.Method;
import java.lang.reflect.Modifier;
import java.util.Arrays;
import java.util.Map;
import java.util.TreeMap;
import java.util.TreeSet;

// The class has the public face of the document and shows nothing else.
public final class FaceTest {
    private static final String[] METHODS = {
        "boolean declareField(int, int)", "boolean declareParam(int, int, int)", "boolean select(int)",
        "boolean emit(int, int, int, int)", "int check()", "int errorWhere()", "int state(int, int, int)",
        "int run(int)", "int info(int)", "int code(int, int, int)", "int frame(int, int)", "int field(int, int)",
        "int out(int)"};
    private static final String CONSTANTS =
        "NONNULL=0 NULLABLE=1 COMMITTED=0 FREE=1 UNCLASSIFIED=2 NULL=0 MOVE=1 NEW=2 GET=3 PUT=4 IFNULL=5 IFNONNULL=6"
        + " JMP=7 RET=8 OUT=9 OK=0 ERR_THIS=1 ERR_NULLARG=2 ERR_INITARG=3 ERR_DEREF=4 ERR_UNINIT=5 ERR_NULLSTORE=6"
        + " ERR_ESCAPE=7 ERR_INCOMPLETE=8 NOT_READY=20 RUNNING=21 HALTED=22 TRAP_DEREF=23 TRAP_NONNULL=24"
        + " TRAP_DEPTH=25 TRAP_HEAP=26 UNCHECKED=30 ACCEPTED=31 REJECTED=32 NONE=-2";

    public static void main(String[] args) throws IllegalAccessException {
        Expect expect = new Expect();
        Class<?> face = NullnessFlow.class;
        expect.same("the class", Modifier.toString(face.getModifiers()), "public final");
        expect.same("interfaces", face.getInterfaces().length, 0);
        expect.same("nested classes", face.getDeclaredClasses().length, 0);
        constructors(expect, face);
        methods(expect, face);
        fields(expect, face);
        expect.end();
    }

    private static void constructors(Expect expect, Class<?> face) {
        Constructor<?>[] all = face.getDeclaredConstructors();
        expect.same("constructors", all.length, 1);
        expect.same("constructor", all[0].toString(), "public NullnessFlow(int,int,int)");
    }

    private static void methods(Expect expect, Class<?> face) {
        TreeSet<String> shown = new TreeSet<>();
        for (Method method : face.getDeclaredMethods()) {
            if (Modifier.isPrivate(method.getModifiers())) {
                continue;
            }
            String types = Arrays.toString(method.getParameterTypes());
            String signature = method.getReturnType() + " " + method.getName()
                    + "(" + types.substring(1, types.length() - 1) + ")";
            expect.same(signature, Modifier.toString(method.getModifiers()), "public");
            shown.add(signature);
        }
        expect.same("methods", shown.toString(), new TreeSet<>(Arrays.asList(METHODS)).toString());
    }

    private static void fields(Expect expect, Class<?> face) throws IllegalAccessException {
        Map<String, Integer> due = new TreeMap<>();
        for (String constant : CONSTANTS.split(" ")) {
            String[] sides = constant.split("=");
            due.put(sides[0], Integer.parseInt(sides[1]));
        }
        Map<String, Integer> shown = new TreeMap<>();
        for (Field field : face.getDeclaredFields()) {
            if (Modifier.isPrivate(field.getModifiers())) {
                continue;
            }
            expect.same(field.getName(), Modifier.toString(field.getModifiers()) + " " + field.getType(),
                    "public static final int");
            shown.put(field.getName(), field.getInt(null));
        }
        expect.same("constants", shown.toString(), due.toString());
    }
}
