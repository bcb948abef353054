import java.lang.reflect.Field;
import java.lang.reflect.Member;
import java.lang.reflect.Method;
import java.lang.reflect.Modifier;
import java.util.Arrays;
import java.util.TreeSet;

/** The public face is that of the document, and nothing else can be seen of the class. */
public final class FaceTest {
    private static final String[] FACE = {
        "double backShare()",
        "int agree(int, int, int) IndexOutOfBoundsException IllegalArgumentException",
        "int append(int) IllegalArgumentException IllegalStateException",
        "int bestRoute(int) IndexOutOfBoundsException",
        "int claim(int) IndexOutOfBoundsException IllegalStateException",
        "int claimable(int) IndexOutOfBoundsException",
        "int clearBuffer()",
        "int closePeriod()",
        "int count(int) IllegalArgumentException",
        "int firstError()",
        "int ifClosed()",
        "int ifRepaired(int, int) IndexOutOfBoundsException IllegalArgumentException",
        "int inWorkshop(int) IllegalArgumentException",
        "int limit(int, int) IndexOutOfBoundsException IllegalArgumentException",
        "int pass(int) IllegalArgumentException IllegalStateException",
        "int product(int, int, int) IndexOutOfBoundsException IllegalArgumentException",
        "int productOf(int, int) IndexOutOfBoundsException IllegalArgumentException",
        "int recall(int, boolean) IndexOutOfBoundsException",
        "int receive(int, int) IndexOutOfBoundsException IllegalStateException",
        "int receiveAll() IllegalArgumentException IllegalStateException",
        "int send(int, int) IndexOutOfBoundsException IllegalArgumentException IllegalStateException",
        "int set(int, int) IndexOutOfBoundsException IllegalArgumentException",
        "int setting(int) IndexOutOfBoundsException",
        "int test(int, int, int) IndexOutOfBoundsException IllegalArgumentException IllegalStateException",
        "int undo() IllegalStateException",
        "int unit(int, int) IndexOutOfBoundsException IllegalArgumentException",
        "int vendor(int, int) IndexOutOfBoundsException IllegalArgumentException",
        "int waiting(int) IllegalArgumentException",
        "int whyNot(int, int) IndexOutOfBoundsException IllegalArgumentException",
        "int workDays()",
        "long digest()"};

    private static final Checks checks = new Checks();

    public static void main(String[] args) {
        Class<?> face = ReturnGrades.class;
        checks.due("the class", Modifier.toString(face.getModifiers()), "public final");
        checks.due("its constructors", face.getDeclaredConstructors().length, 1);
        checks.due("its constructor", face.getDeclaredConstructors()[0].toString(), "public ReturnGrades()");
        TreeSet<String> methods = new TreeSet<>();
        TreeSet<String> names = new TreeSet<>();
        for (Method method : face.getDeclaredMethods()) {
            if (isSeen(method)) {
                methods.add(described(method));
                names.add(method.getName());
            }
        }
        checks.due("the methods", String.join("\n", methods), String.join("\n", new TreeSet<>(Arrays.asList(FACE))));
        fields(face);
        privateNames(face, names);
        checks.due("NONE", ReturnGrades.NONE, -1);
        checks.end();
    }

    private static void fields(Class<?> face) {
        for (Field field : face.getDeclaredFields()) {
            if (isSeen(field) && !field.getName().equals("NONE")) {
                checks.fault("field " + field.getName() + " can be seen");
            }
            if (Modifier.isStatic(field.getModifiers()) && !Modifier.isFinal(field.getModifiers())) {
                checks.fault("field " + field.getName() + " is static, but not final");
            }
        }
    }

    /** No private method, of the class or of one inside it, bears the name of a public one. */
    private static void privateNames(Class<?> face, TreeSet<String> names) {
        for (Method method : face.getDeclaredMethods()) {
            if (!isSeen(method) && names.contains(method.getName())) {
                checks.fault("private method " + method.getName() + " bears the name of a public one");
            }
        }
        for (Class<?> inside : face.getDeclaredClasses()) {
            if (!Modifier.isPrivate(inside.getModifiers()) || !Modifier.isStatic(inside.getModifiers())) {
                checks.fault("class " + inside.getSimpleName() + " is not private and static");
            }
            for (Method method : inside.getDeclaredMethods()) {
                if (names.contains(method.getName())) {
                    checks.fault("method " + method.getName() + " inside bears the name of a public one");
                }
            }
        }
    }

    private static boolean isSeen(Member member) {
        return !Modifier.isPrivate(member.getModifiers()) && !member.isSynthetic();
    }

    private static String described(Method method) {
        StringBuilder text = new StringBuilder(method.getReturnType() + " " + method.getName() + "(");
        for (int i = 0; i < method.getParameterCount(); i++) {
            text.append(i == 0 ? "" : ", ").append(method.getParameterTypes()[i]);
        }
        text.append(")");
        for (Class<?> thrown : method.getExceptionTypes()) {
            text.append(" ").append(thrown.getSimpleName());
        }
        return text.toString();
    }
}
