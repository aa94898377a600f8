import java.io.IOException;
import java.lang.reflect.Constructor;
import java.lang.reflect.Field;
import java.lang.reflect.Method;
import java.lang.reflect.Modifier;
import java.nio.charset.StandardCharsets;
import java.nio.file.Files;
import java.nio.file.Path;
import java.util.Set;
import java.util.TreeSet;
import java.util.regex.Matcher;
import java.util.regex.Pattern;

/** The public face, the rules of LANGUAGE.md that a program can look at, and wild calls. */
public final class FaceTest {
    private static final Check c = new Check();
    private static final String FACE = "int air(int,int,int)|int all(int,int,int)|int alone(int)|int board(int,int)|"
        + "int cam(int,int,int,int)|boolean door(int,int,int,int,boolean)|boolean end(int)|int fault(int)|"
        + "int feed(int,int,int,int,int)|int first(int)|int game(int,int)|boolean habit(int,int,int)|"
        + "int hide(int,int,int,int)|int master(int,int,int,int)|boolean move(int,int,int)|int night(int,int,int,int,int)|"
        + "int order(int,int,int,int,int)|int pamphlet(int)|boolean piece(int,int)|int poses(int,int)|"
        + "int proof(int,int,int)|int reason(int)|int run(int,int,int)|int seen(int,int,int)|boolean stick(int,boolean)|"
        + "int story(int,int)|int text(int)|boolean truth(int)|boolean wall(int,int,int,boolean)|boolean was(int,int,int)|"
        + "int way(int,int,int,int)|int who(int,int,int)|boolean works(int,int,boolean)|int writer(int,int)";

    private FaceTest() {
    }

    public static void main(String[] args) throws IOException {
        face();
        privateNames();
        source();
        wildCalls();
        c.end();
    }

    private static String told(Method method) {
        StringBuilder text = new StringBuilder(method.getReturnType() + " " + method.getName() + "(");
        for (Class<?> type : method.getParameterTypes()) {
            text.append(text.charAt(text.length() - 1) == '(' ? "" : ",").append(type);
        }
        return text.append(')').toString();
    }

    private static void face() {
        c.test("the public face and nothing beside it");
        Set<String> methods = new TreeSet<>();
        for (Method method : WoodenTurk.class.getDeclaredMethods()) {
            if (!Modifier.isPrivate(method.getModifiers())) {
                c.due(method + " is public", Modifier.isPublic(method.getModifiers()), true);
                methods.add(told(method));
            }
        }
        c.due("methods " + methods, methods.equals(new TreeSet<>(Set.of(FACE.split("\\|")))), true);
        for (Field field : WoodenTurk.class.getDeclaredFields()) {
            c.due(field + " is private", Modifier.isPrivate(field.getModifiers()), !field.getName().equals("NONE"));
        }
        c.due("NONE", WoodenTurk.NONE, -1);
        Constructor<?>[] made = WoodenTurk.class.getDeclaredConstructors();
        c.due("constructors", made.length, 1);
        c.due("public, without arguments", Modifier.isPublic(made[0].getModifiers()) && made[0].getParameterCount() == 0,
            true);
        c.due("final", Modifier.isFinal(WoodenTurk.class.getModifiers()), true);
    }

    private static void privateNames() {
        c.test("classes inside are static, no private method bears a public one's name");
        Class<?>[] inside = WoodenTurk.class.getDeclaredClasses();
        c.due("at most twelve classes", inside.length <= 11, true);
        for (Class<?> type : inside) {
            c.due(type + " is static", Modifier.isStatic(type.getModifiers()), true);
            c.due(type + " is not public", Modifier.isPublic(type.getModifiers()), false);
            for (Method method : type.getDeclaredMethods()) {
                c.due(method + " has a name of its own", FACE.contains(" " + method.getName() + "("), false);
            }
        }
        for (Method method : WoodenTurk.class.getDeclaredMethods()) {
            c.due(method + " has a name of its own", Modifier.isPrivate(method.getModifiers())
                && FACE.contains(" " + method.getName() + "("), false);
        }
    }

    private static void source() throws IOException {
        c.test("words that the language rules out do not stand in the source");
        String text = Files.readString(Path.of("src/main/java/WoodenTurk.java"), StandardCharsets.UTF_8);
        String code = text.replaceAll("(?s)/\\*.*?\\*/", "").replaceAll("//[^\n]*", "").replaceAll("\"[^\"\n]*\"", "\"\"");
        Pattern ruledOut = Pattern.compile("\\b(throw|throws|try|catch|finally|synchronized|assert|import|package|protected"
            + "|transient|volatile|native|instanceof|var|Object|toString|equals|hashCode|Exact|System\\.(?!arraycopy))\\b"
            + "|->|::|@|\"\" *\\+|\\+ *\"\"");
        Matcher found = ruledOut.matcher(code);
        while (found.find()) {
            c.due("stands in the source: " + found.group(), 1, 0);
        }
        for (int i = 0; i < text.length(); i++) {
            c.due("sign " + (int) text.charAt(i), text.charAt(i) < 128, true);
        }
    }

    private static void wildCalls() {
        c.test("no call throws or hangs, whatever it is given");
        Method[] methods = WoodenTurk.class.getDeclaredMethods();
        java.util.Arrays.sort(methods, java.util.Comparator.comparing(Method::getName));
        long seed = 1769;
        for (int object = 0; object < 60; object++) {
            WoodenTurk x = new WoodenTurk();
            for (int call = 0; call < 512; call++) {
                seed = seed * 6364136223846793005L + 1442695040888963407L;
                Method method = methods[(int) ((seed >>> 33) % methods.length)];
                if (Modifier.isPublic(method.getModifiers())) {
                    seed = wildCall(x, method, seed);
                }
            }
        }
    }

    private static long wildCall(WoodenTurk x, Method method, long from) {
        int[] edges = {Integer.MIN_VALUE, Integer.MAX_VALUE, -1, -2, 64, 65, 1 << 30, 1024, 100, 16, 10, 0x7475726E,
            0x3B3B3B3B, 0x61697220, 0x28286E6F};
        long seed = from;
        Object[] given = new Object[method.getParameterCount()];
        for (int i = 0; i < given.length; i++) {
            seed = seed * 6364136223846793005L + 1442695040888963407L;
            int number = (int) (seed >>> 33);
            int chosen = number % 4 == 0 ? edges[number / 4 % edges.length] : number / 4 % (number % 4 * 4);
            given[i] = method.getParameterTypes()[i] == boolean.class ? (Object) (number % 2 == 0) : (Object) chosen;
        }
        try {
            method.invoke(x, given);
        } catch (ReflectiveOperationException broken) {
            c.due(method.getName() + java.util.Arrays.toString(given) + " threw " + broken.getCause(), 1, 0);
        }
        return seed;
    }
}
