import java.lang.reflect.Method;
import java.lang.reflect.Modifier;
import java.nio.file.Files;
import java.nio.file.Path;
import java.util.regex.Matcher;
import java.util.regex.Pattern;

/** The calls that README.md shows, one behind the other on one object, answer what it says. */
public final class ReadmeTest {
    private static final Check CHECK = new Check();
    private static final Pattern CALL =
        Pattern.compile("(?m)^judge\\.((\\w+)\\(([^)]*)\\));(?: +// (true|false|-?\\d+))?");

    public static void main(String[] args) throws Exception {
        String text = Files.readString(Path.of("README.md"));
        TicketJudge judge = new TicketJudge();
        int shown = 0;
        for (Matcher m = CALL.matcher(text); m.find(); shown++) {
            CHECK.due(m.group(1) + " has its answer behind it", m.group(4) != null, true);
            Method method = methodNamed(m.group(2));
            Object got = method.invoke(judge, arguments(method, m.group(3)));
            CHECK.same(m.group(1), String.valueOf(got), String.valueOf(m.group(4)));
        }
        CHECK.due("calls are shown", shown > 0, true);
        for (Method m : TicketJudge.class.getDeclaredMethods()) {
            boolean open = Modifier.isPublic(m.getModifiers());
            CHECK.due(m.getName() + " is shown", !open || text.contains("judge." + m.getName() + "("), true);
        }
        CHECK.finish();
    }

    private static Method methodNamed(String name) {
        for (Method m : TicketJudge.class.getMethods()) {
            if (m.getName().equals(name)) {
                return m;
            }
        }
        throw new IllegalStateException("no such call: " + name);
    }

    private static Object[] arguments(Method method, String text) {
        String[] parts = text.isEmpty() ? new String[0] : text.split(", ");
        Object[] values = new Object[parts.length];
        for (int k = 0; k < parts.length; k++) {
            long value = Long.decode(parts[k]);
            values[k] = method.getParameterTypes()[k] == long.class ? (Object) value : (Object) (int) value;
        }
        return values;
    }
}
