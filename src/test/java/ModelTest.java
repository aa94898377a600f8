import java.lang.reflect.Method;
import java.nio.ByteBuffer;
import java.nio.charset.StandardCharsets;
import java.util.Arrays;
import java.util.Map;
import java.util.TreeMap;

/** Runs of calls of all kinds, each answer against that of the document told a second time (Model). */
public final class ModelTest {
    /** So many calls an object is used for. */
    private static final int MOST_CALLS = 512;
    private static final String[] STRANGE = {"12345", "~", "\u00e9", "\u0000", "\t", "Open", "not", "opens", "10", "21", "0"};
    private static final String[] PAPER_TOKENS = ("man none when or and no no seen works doors secs turns air gap + - * / ( ) ( ) "
        + "< = > ; 0 1 15 16 9999 10000 open").split(" ");
    private static final String[] SHOW_TOKENS = "open shut wait candle dark turn ; ; 0 5 9 10 20 21 0007 ( man".split(" ");
    private static final String[] BY_SPACE = {"seen", "works"};
    private static final String[] FACTS = {"doors", "secs", "turns", "air", "gap"};
    private static final Map<String, Method> REAL = methods(WoodenTurk.class);
    private static final Map<String, Method> MODEL = methods(Model.class);
    private static final Check c = new Check();
    private static long seed = 1784;

    private final WoodenTurk x = new WoodenTurk();
    private final Model model = new Model();
    private final StringBuilder told = new StringBuilder();
    private int calls = 0;

    public static void main(String[] args) throws ReflectiveOperationException {
        texts();
        chests();
        nights();
        boardsAndGames();
        writers();
        allTogether();
        c.end();
    }

    private static Map<String, Method> methods(Class<?> type) {
        Map<String, Method> methods = new TreeMap<>();
        for (Method method : type.getDeclaredMethods()) {
            if (!java.lang.reflect.Modifier.isPrivate(method.getModifiers()) && !method.isSynthetic()) {
                methods.put(method.getName(), method);
            }
        }
        return methods;
    }

    private static int any(int bound) {
        seed = seed * 6364136223846793005L + 1442695040888963407L;
        return (int) ((seed >>> 33) % bound);
    }

    private static String any(String[] words) {
        return words[any(words.length)];
    }

    /** A number of least .. most, and now and then one beside them. */
    private static int near(int least, int most) {
        if (any(40) == 0) {
            return new int[] {least - 1, most + 1, Integer.MIN_VALUE, Integer.MAX_VALUE}[any(4)];
        }
        return least + any(most - least + 1);
    }

    private static int nearSet(int bits) {
        return any(40) == 0 ? near(0, (1 << bits) - 1) : any(1 << bits) & any(1 << bits);
    }

    private boolean hasRoom(int more) {
        return calls + more <= MOST_CALLS;
    }

    private void call(String name, Object... args) throws ReflectiveOperationException {
        if (!hasRoom(1)) {
            return;
        }
        calls++;
        told.append(name).append(Arrays.toString(args)).append(' ');
        Object got = REAL.get(name).invoke(x, args);
        Object want = MODEL.get(name).invoke(model, args);
        if (!got.equals(want)) {
            c.due(told + "(" + got + " and not " + want + ")", 1, 0);
        }
    }

    private void text(int k, String text) throws ReflectiveOperationException {
        byte[] bytes = Arrays.copyOf(text.getBytes(StandardCharsets.ISO_8859_1), Math.min(600, text.length()));
        if (hasRoom(bytes.length / 20 + 5)) {
            ByteBuffer row = ByteBuffer.wrap(Arrays.copyOf(bytes, 620));
            for (int i = 0; i < bytes.length; i += 20) {
                call("feed", row.getInt(), row.getInt(), row.getInt(), row.getInt(), row.getInt());
            }
            call("end", bytes.length);
            call("text", k);
            call("fault", 0);
            call("fault", 1);
        }
    }

    // texts, most of them right but for a token or two

    private static String show(int steps) {
        StringBuilder text = new StringBuilder();
        for (int i = 0; i < steps; i++) {
            String word = any(new String[] {"open", "open", "shut", "candle", "wait", "dark", "turn"});
            text.append(word).append(' ');
            if (!word.equals("dark") && !word.equals("turn")) {
                text.append(word.equals("wait") ? 1 + any(any(8) == 0 ? 20 : 3) : any(10)).append(' ');
            }
            text.append("; ");
        }
        return text.toString();
    }

    private static String pamphlet(int reasons, int depth) {
        StringBuilder text = new StringBuilder();
        for (int i = 0; i < reasons; i++) {
            text.append(any(2) == 0 ? "man" : "none").append(" when ").append(choice(depth)).append(" ; ");
        }
        return text.toString();
    }

    private static String choice(int depth) {
        StringBuilder text = new StringBuilder(condition(depth));
        for (int i = any(4); i > 2; i--) {
            text.append(any(2) == 0 ? " or " : " and ").append(condition(depth));
        }
        return text.toString();
    }

    private static String condition(int depth) {
        if (depth > 0 && any(3) > 0) {
            return any(2) == 0 ? "no " + condition(depth - 1) : "( " + choice(depth - 1) + " )";
        }
        return sum() + " " + any(new String[] {"<", "=", ">"}) + " " + sum();
    }

    private static String sum() {
        StringBuilder text = new StringBuilder(unit());
        for (int i = any(4); i > 1; i--) {
            String sign = any(new String[] {"+", "-", "*", "/"});
            text.append(' ').append(sign).append(' ').append(sign.equals("/") ? Integer.toString(1 + any(30)) : unit());
        }
        return text.toString();
    }

    private static String unit() {
        return switch (any(3)) {
            case 0 -> any(BY_SPACE) + " " + any(16);
            case 1 -> any(FACTS);
            default -> Integer.toString(any(any(2) == 0 ? 4 : 1000));
        };
    }

    /** Changes up to so many tokens, and some of the blanks between them. */
    private static String spoil(String text, int tokens, String[] from) {
        String[] row = text.split(" ");
        for (int i = any(tokens + 1); i > 0; i--) {
            int at = any(row.length);
            String other = any(3) == 0 ? any(STRANGE) : any(from);
            row[at] = switch (any(3)) {
                case 0 -> other;
                case 1 -> "";
                default -> row[at] + " " + other;
            };
        }
        StringBuilder spoilt = new StringBuilder();
        for (String token : row) {
            boolean isSign = token.length() == 1 && !Character.isLetterOrDigit(token.charAt(0));
            if (isSign && any(2) == 0 && spoilt.length() > 0) {
                spoilt.setLength(spoilt.length() - 1);
            }
            spoilt.append(token).append(isSign && any(2) == 0 ? "" : any(20) == 0 ? "\n " : " ");
        }
        return spoilt.toString();
    }

    private static void texts() throws ReflectiveOperationException {
        c.test("7, 8 texts and their faults against the document told a second time");
        for (int round = 0; round < 400; round++) {
            ModelTest run = new ModelTest();
            while (run.hasRoom(36)) {
                if (any(2) == 0) {
                    run.text(any(4), spoil(show(any(12) == 0 ? 38 + any(6) : any(8)), 1, SHOW_TOKENS));
                } else {
                    int reasons = any(12) == 0 ? 18 + any(6) : any(4);
                    String text = reasons > 10 ? "man when 1 = 1 ; ".repeat(reasons) : pamphlet(reasons, any(10));
                    run.text(4, spoil(text, 1, PAPER_TOKENS));
                }
                run.call("run", 0, any(4), 0);
                run.call("reason", any(3));
            }
        }
    }

    // calls

    private void build() throws ReflectiveOperationException {
        switch (any(5)) {
            case 0, 1 -> call("works", near(0, 2), near(0, 15), any(3) > 0);
            case 2 -> {
                int s = near(0, 15);
                call("wall", near(0, 2), s, any(4) == 0 ? near(0, 15) : s ^ new int[] {1, 4, 8}[any(3)], any(3) > 0);
            }
            default -> {
                int side = near(0, 1);
                call("door", near(0, 2), near(0, 9), side, any(20) == 0 ? nearSet(16) : nearSet(8) << (side == 1 ? 8 : 0),
                    any(3) == 0);
            }
        }
    }

    private void askChest() throws ReflectiveOperationException {
        switch (any(10)) {
            case 0 -> call("poses", near(0, 2), near(1, 4));
            case 1 -> call("seen", near(0, 2), near(0, 3), near(0, 20));
            case 2 -> call("run", near(0, 2), near(0, 3), near(0, 3));
            case 3, 4 -> call("hide", near(0, 2), near(0, 3), near(1, 4), near(0, 2));
            case 5, 6 -> call("way", near(0, 2), near(0, 3), near(1, 4), near(0, 12));
            case 7 -> call("order", near(0, 2), nearSet(10) & (any(4) == 0 ? -1 : 0x155), near(1, 5), near(1, 4), near(0, 6));
            case 8 -> call("proof", near(0, 2), near(1, 4), nearSet(10));
            default -> call("air", near(0, 2), near(0, 4), near(0, 3));
        }
    }

    private static void chests() throws ReflectiveOperationException {
        c.test("2 to 18 chests and shows that change between the questions against the document told a second time");
        for (int round = 0; round < 12; round++) {
            ModelTest run = new ModelTest();
            for (int i = any(60); i > 0; i--) {
                run.build();
            }
            while (run.hasRoom(80)) {
                run.text(any(4), show(any(9)));
                run.text(4, pamphlet(1 + any(3), 2));
                for (int i = 0; i < 12; i++) {
                    run.build();
                    run.askChest();
                }
                run.call("reason", near(0, 3));
                run.call("pamphlet", near(0, 3));
            }
        }
    }

    private void callNights(int years, int towns) throws ReflectiveOperationException {
        switch (any(12)) {
            case 0 -> call("master", near(1, 4), near(0, 99), near(0, years / 2), near(years / 2, 99));
            case 1, 2 -> call("was", near(0, 11), near(0, towns), near(0, years));
            case 3 -> call("habit", near(0, 11), near(0, 2), near(0, 9));
            case 4, 5, 6 -> call("night", near(0, years), near(0, towns), near(0, 99), near(0, 2), near(-1, 2));
            case 7, 8 -> call("who", near(0, 59), near(0, 11), near(0, 1));
            default -> {
                int a = near(0, 59);
                call("all", a, any(3) == 0 ? near(0, 59) : near(a, a + 9), near(0, 11));
            }
        }
    }

    private static void nights() throws ReflectiveOperationException {
        c.test("23 to 28 masters and nights against the document told a second time");
        for (int round = 0; round < 300; round++) {
            ModelTest run = new ModelTest();
            int years = 1 + any(99);
            int towns = any(10);
            while (run.hasRoom(1)) {
                run.callNights(years, towns);
            }
        }
    }

    private void callBoard(int squares) throws ReflectiveOperationException {
        switch (any(8)) {
            case 0 -> call("piece", near(0, squares), near(0, 12));
            case 1 -> call("stick", near(0, squares), any(2) == 0);
            case 2, 3, 4 -> call("move", near(0, squares), near(0, squares), any(2) == 0 ? -1 : near(-1, 12));
            default -> call("board", near(0, squares), near(0, 3));
        }
    }

    private void callGame() throws ReflectiveOperationException {
        switch (any(20)) {
            case 0, 1 -> call("cam", near(0, 2), near(0, 2), near(0, 1), near(0, 1));
            case 2 -> call("alone", 2);
            case 3, 4, 5 -> call("alone", near(0, 3));
            case 6 -> call("game", near(0, 63), near(0, 63));
            default -> call("game", near(0, 2), near(0, 2));
        }
    }

    private static void boardsAndGames() throws ReflectiveOperationException {
        c.test("19 to 22, 29 to 31 boards and games against the document told a second time");
        for (int round = 0; round < 300; round++) {
            ModelTest run = new ModelTest();
            int squares = any(4) == 0 ? 63 : 1 + any(12);
            while (run.hasRoom(1)) {
                if (any(2) == 0) {
                    run.callBoard(squares);
                } else {
                    run.callGame();
                }
            }
        }
    }

    private void callWriters(int years, int claims) throws ReflectiveOperationException {
        switch (any(12)) {
            case 0 -> call("writer", near(0, years), nearSet(claims));
            case 1 -> call("truth", any(3) == 0 ? nearSet(claims) : nearSet(claims) & any(1 << claims));
            case 2, 3 -> call("first", near(0, 29) % (claims + 2));
            default -> call("story", near(0, 19), near(0, 4));
        }
    }

    private static void writers() throws ReflectiveOperationException {
        c.test("32 to 35 writers against the document told a second time");
        for (int round = 0; round < 200; round++) {
            ModelTest run = new ModelTest();
            int years = any(2) == 0 ? 99 : any(4);
            int claims = 1 + any(30);
            while (run.hasRoom(1)) {
                run.callWriters(years, claims);
            }
        }
    }

    private static void allTogether() throws ReflectiveOperationException {
        c.test("1 to 35 calls of all kinds in one object against the document told a second time");
        for (int round = 0; round < 10; round++) {
            ModelTest run = new ModelTest();
            while (run.hasRoom(1)) {
                switch (any(9)) {
                    case 0, 1 -> run.build();
                    case 2 -> run.askChest();
                    case 3 -> run.text(near(0, 4), spoil(any(2) == 0 ? show(any(6)) : pamphlet(1, 3), 1, PAPER_TOKENS));
                    case 4 -> run.callNights(20, 3);
                    case 5 -> run.callBoard(8);
                    case 6 -> run.callGame();
                    case 7 -> run.callWriters(9, 8);
                    default -> run.call("reason", near(0, 2));
                }
            }
        }
    }
}
