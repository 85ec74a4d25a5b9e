import java.lang.reflect.Constructor;
import java.lang.reflect.Field;
import java.lang.reflect.Method;
import java.lang.reflect.Modifier;
import java.util.Arrays;
import java.util.TreeSet;

/** The public face: just what the document has, with the exceptions that it names. */
public final class FaceTest {
    private static final String[] DUE = {
        "int agree()",
        "int at(int)",
        "int between(int, int, boolean) NoSuchElementException",
        "int bound(int, int)",
        "int count(int)",
        "boolean end(int)",
        "int fault()",
        "int feed(int, int, int, int, int)",
        "int happening()",
        "boolean hear(int)",
        "int leave()",
        "int name(int)",
        "int needless(int, int) IndexOutOfBoundsException",
        "int octet(int) NoSuchElementException",
        "int order(int, int)",
        "int quarrel()",
        "int quarrelled(int)",
        "int saying(int, int, int) IndexOutOfBoundsException NoSuchElementException",
        "int sayings(int) IndexOutOfBoundsException",
        "int tell(int) IndexOutOfBoundsException",
    };

    public static void main(String[] args) {
        TreeSet<String> due = new TreeSet<>(Arrays.asList(DUE));
        TreeSet<String> found = new TreeSet<>();
        TreeSet<String> publicNames = new TreeSet<>();
        for (Method method : CaseOrder.class.getDeclaredMethods()) {
            if (!Modifier.isPrivate(method.getModifiers())) {
                found.add(describe(method));
                publicNames.add(method.getName());
                Probe.due(method + " is public", Modifier.isPublic(method.getModifiers()), true);
            }
        }
        Probe.due("the methods " + found, found.equals(due), true);
        for (Class<?> inside : CaseOrder.class.getDeclaredClasses()) {
            Probe.due(inside + " is static", Modifier.isStatic(inside.getModifiers()), true);
            Probe.due(inside + " is not public", Modifier.isPublic(inside.getModifiers()), false);
        }
        for (Method method : CaseOrder.class.getDeclaredMethods()) {
            boolean shadow = Modifier.isPrivate(method.getModifiers()) && publicNames.contains(method.getName());
            Probe.due(method + " bears a public name", shadow, false);
        }
        for (Field field : CaseOrder.class.getDeclaredFields()) {
            boolean constant = field.getName().equals("NONE");
            Probe.due(field + " is private", Modifier.isPrivate(field.getModifiers()), !constant);
        }
        Constructor<?>[] constructors = CaseOrder.class.getDeclaredConstructors();
        Probe.due("one constructor", constructors.length, 1);
        Probe.due("without parameters", constructors[0].getParameterCount(), 0);
        Probe.due("which is public", Modifier.isPublic(constructors[0].getModifiers()), true);
        Probe.due("the class is final", Modifier.isFinal(CaseOrder.class.getModifiers()), true);
        Probe.due("NONE", CaseOrder.NONE, -1);
        Probe.close("FaceTest");
    }

    private static String describe(Method method) {
        StringBuilder text = new StringBuilder(method.getReturnType().getSimpleName());
        text.append(' ').append(method.getName()).append('(');
        for (int i = 0; i < method.getParameterCount(); i++) {
            text.append(i == 0 ? "" : ", ").append(method.getParameterTypes()[i].getSimpleName());
        }
        text.append(')');
        for (Class<?> thrown : method.getExceptionTypes()) {
            text.append(' ').append(thrown.getSimpleName());
        }
        return text.toString();
    }
}
