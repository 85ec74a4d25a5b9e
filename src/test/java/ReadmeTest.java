import java.io.IOException;
import java.lang.reflect.InvocationTargetException;
import java.lang.reflect.Method;
import java.lang.reflect.Modifier;
import java.nio.ByteBuffer;
import java.nio.charset.StandardCharsets;
import java.nio.file.Files;
import java.nio.file.Path;
import java.util.Arrays;
import java.util.TreeSet;
import java.util.regex.Matcher;
import java.util.regex.Pattern;

/** README.md: its rows of Java are called, in their order, and must answer what stands behind them. */
public final class ReadmeTest {
    private static final String ANSWER = "\\s+// (throws \\w+|true|false|-?\\d+)(: .*)?";
    private static final Pattern NEW = Pattern.compile("CaseOrder order = new CaseOrder\\(\\);");
    private static final Pattern TELL = Pattern.compile("tell\\(order, (\\d), \"([^\"]*)\"\\);" + ANSWER);
    private static final Pattern CALL = Pattern.compile("order\\.(\\w+)\\(([^)]*)\\);" + ANSWER);
    /** A row that none of these fits is a slip of the page, not one to pass over. */
    private static final Pattern ROW = Pattern.compile("(order\\.|tell\\(order|CaseOrder order).*");

    private static CaseOrder order = new CaseOrder();
    private static final TreeSet<String> called = new TreeSet<>();

    public static void main(String[] args) throws IOException, ReflectiveOperationException {
        String page = Files.readString(Path.of("README.md"));
        boolean java = false;
        for (String row : page.split("\n")) {
            if (row.startsWith("```")) {
                java = row.equals("```java");
            } else if (java) {
                run(row);
            }
        }
        String own = page.substring(page.indexOf("static int tell("), page.indexOf("\n}\n") + 2);
        String here = Files.readString(Path.of("src/test/java/ReadmeTest.java"));
        Probe.due("README.md has the method tell of this test", flat(here).contains(flat(own)), true);
        for (Method method : CaseOrder.class.getDeclaredMethods()) {
            if (Modifier.isPublic(method.getModifiers())) {
                Probe.due(method.getName() + " is called in README.md", called.contains(method.getName()), true);
                Probe.due(method.getName() + " has a row in README.md", page.contains("\n| `" + form(method)), true);
            }
        }
        Probe.close("ReadmeTest");
    }

    private static void run(String row) throws ReflectiveOperationException {
        Matcher tell = TELL.matcher(row);
        Matcher call = CALL.matcher(row);
        if (NEW.matcher(row).matches()) {
            order = new CaseOrder();
        } else if (tell.matches()) {
            int answer = tell(order, Integer.parseInt(tell.group(1)), tell.group(2));
            due(row, String.valueOf(answer), tell.group(3));
        } else if (call.matches()) {
            due(row, answer(call.group(1), call.group(2)), call.group(3));
        } else {
            Probe.due("README.md has '" + row + "' without an answer", ROW.matcher(row).matches(), false);
        }
    }

    private static void due(String row, String got, String want) {
        Probe.due("README.md, '" + row + "' answers " + got + ", so that it is right,", got.equals(want), true);
    }

    private static String answer(String name, String values) throws ReflectiveOperationException {
        Method method = method(name);
        String[] parts = values.isEmpty() ? new String[0] : values.split(", ");
        Object[] given = new Object[parts.length];
        for (int i = 0; i < parts.length; i++) {
            boolean truth = method.getParameterTypes()[i] == boolean.class;
            given[i] = truth ? (Object) Boolean.valueOf(parts[i]) : Integer.decode(parts[i]);
        }
        called.add(name);
        try {
            return String.valueOf(method.invoke(order, given));
        } catch (InvocationTargetException e) {
            return "throws " + e.getCause().getClass().getSimpleName();
        }
    }

    private static Method method(String name) throws NoSuchMethodException {
        for (Method method : CaseOrder.class.getDeclaredMethods()) {
            if (method.getName().equals(name) && Modifier.isPublic(method.getModifiers())) {
                return method;
            }
        }
        throw new NoSuchMethodException(name);
    }

    private static String form(Method method) {
        return method.getName() + (method.getParameterCount() == 0 ? "()`" : "(");
    }

    private static String flat(String text) {
        return text.replaceAll("\n +", "\n");
    }

    /** As it stands in README.md. */
    static int tell(CaseOrder order, int teller, String text) {
        byte[] bytes = text.getBytes(StandardCharsets.ISO_8859_1);
        ByteBuffer tape = ByteBuffer.wrap(Arrays.copyOf(bytes, (bytes.length + 19) / 20 * 20));
        order.end(0);
        while (tape.hasRemaining()) {
            order.feed(tape.getInt(), tape.getInt(), tape.getInt(), tape.getInt(), tape.getInt());
        }
        order.end(bytes.length);
        return order.tell(teller);
    }
}
