import java.lang.reflect.Constructor;
import java.lang.reflect.Field;
import java.lang.reflect.Method;
import java.lang.reflect.Modifier;
import java.util.Arrays;
import java.util.TreeSet;

/** The face is that of the document, and nothing more. */
public final class FaceTest {
    private static final String[] DUE = {
        "int link(int) IAE ISE", "int cut(int) IOOBE ISE", "int bend(int,int) IOOBE IAE", "int turn()",
        "int weight(int,int) IOOBE IAE", "int hanger(int,int) IOOBE IAE", "int prop(int,int) IOOBE IAE",
        "int move(int,int) IOOBE IAE", "int set(int,int) IOOBE IAE", "int append(int) IAE ISE",
        "int clearBuffer()", "int firstError()", "int shape() IAE", "int undo() ISE",
        "int linkOf(int,int) IOOBE IAE", "int joint(int,int) IOOBE IAE", "int count(int) IAE",
        "int setting(int) IOOBE", "int ifWeight(int,int) IOOBE IAE", "int mostWeight(int) IOOBE",
        "int bestMove(int) IOOBE", "int bestHanger(int) IAE", "int bestStep(int) IOOBE",
        "double evenness()", "long digest()"};

    public static void main(String[] args) {
        Check check = new Check();
        int kind = HangingChain.class.getModifiers();
        check.same("public and final", kind, Modifier.PUBLIC | Modifier.FINAL);
        check.same("NONE", HangingChain.NONE, -1);
        methods(check);
        fieldsAndConstructors(check);
        check.end();
    }

    private static void methods(Check check) {
        TreeSet<String> got = new TreeSet<>();
        TreeSet<String> publicNames = new TreeSet<>();
        for (Method method : HangingChain.class.getDeclaredMethods()) {
            if (Modifier.isPublic(method.getModifiers())) {
                got.add(told(method));
                publicNames.add(method.getName());
            }
        }
        for (Method method : HangingChain.class.getDeclaredMethods()) {
            boolean isPrivate = Modifier.isPrivate(method.getModifiers());
            if (!isPrivate && !Modifier.isPublic(method.getModifiers())) {
                check.tell(method.getName() + " is neither public nor private");
            }
            if (isPrivate && publicNames.contains(method.getName())) {
                check.tell(method.getName() + " is private and bears a public name");
            }
        }
        check.text("the methods", got.toString(), new TreeSet<>(Arrays.asList(DUE)).toString());
    }

    private static String told(Method method) {
        StringBuilder text = new StringBuilder();
        text.append(method.getReturnType()).append(' ').append(method.getName()).append('(');
        for (int k = 0; k < method.getParameterCount(); k++) {
            text.append(k == 0 ? "" : ",").append(method.getParameterTypes()[k]);
        }
        text.append(')');
        for (Class<?> thrown : method.getExceptionTypes()) {
            text.append(' ').append(thrown.getSimpleName().replaceAll("[a-z]", ""));
        }
        return text.toString();
    }

    private static void fieldsAndConstructors(Check check) {
        for (Field field : HangingChain.class.getDeclaredFields()) {
            boolean none = field.getName().equals("NONE");
            int due = none ? Modifier.PUBLIC : Modifier.PRIVATE;
            int access = field.getModifiers() & (Modifier.PUBLIC | Modifier.PROTECTED | Modifier.PRIVATE);
            check.same("access of " + field.getName(), access, due);
            if (Modifier.isStatic(field.getModifiers()) && !Modifier.isFinal(field.getModifiers())) {
                check.tell(field.getName() + " is static, but not final");
            }
        }
        Constructor<?>[] constructors = HangingChain.class.getDeclaredConstructors();
        check.same("constructors", constructors.length, 1);
        check.same("their parameters", constructors[0].getParameterCount(), 0);
        check.same("their access", constructors[0].getModifiers(), Modifier.PUBLIC);
    }
}
