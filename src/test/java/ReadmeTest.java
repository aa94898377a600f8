import java.io.IOException;
import java.lang.reflect.Method;
import java.nio.file.Files;
import java.nio.file.Path;
import java.util.regex.Matcher;
import java.util.regex.Pattern;

/** Makes the calls that README.md shows, and names all that there are. */
public final class ReadmeTest {
    private static final Pattern CALL = Pattern.compile("^x\\.(\\w+)\\((.*)\\); +// (-?\\w+): .*$", Pattern.MULTILINE);
    private static final Check c = new Check();

    public static void main(String[] args) throws IOException, ReflectiveOperationException {
        String text = Files.readString(Path.of("README.md"));
        calls(text);
        names(text);
        c.end();
    }

    private static void calls(String text) throws ReflectiveOperationException {
        c.test("the calls that README.md shows answer what it tells");
        WoodenTurk x = new WoodenTurk();
        Matcher call = CALL.matcher(text);
        int count = 0;
        while (call.find()) {
            count++;
            c.due(call.group() + " answers so", answer(x, call.group(1), call.group(2).split(", ")).equals(call.group(3)), true);
        }
        c.due("calls found", count, (int) text.lines().filter(line -> line.startsWith("x.")).count());
        c.due("there are some", count > 0, true);
    }

    private static String answer(WoodenTurk x, String name, String[] told) throws ReflectiveOperationException {
        for (Method method : WoodenTurk.class.getMethods()) {
            if (method.getName().equals(name) && method.getParameterCount() == told.length) {
                Object[] given = new Object[told.length];
                for (int i = 0; i < told.length; i++) {
                    given[i] = method.getParameterTypes()[i] == boolean.class ? (Object) Boolean.valueOf(told[i]) : number(told[i]);
                }
                return method.invoke(x, given).toString();
            }
        }
        return "no such call";
    }

    private static Integer number(String told) {
        return told.startsWith("0b") ? Integer.valueOf(told.substring(2), 2) : Integer.decode(told);
    }

    private static void names(String text) {
        c.test("README.md names each call");
        for (Method method : WoodenTurk.class.getMethods()) {
            if (method.getDeclaringClass() == WoodenTurk.class) {
                c.due(method.getName() + " is named", text.contains("`" + method.getName() + "`"), true);
            }
        }
    }
}
