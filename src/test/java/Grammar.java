import java.util.ArrayDeque;
import java.util.ArrayList;
import java.util.Deque;
import java.util.List;
import java.util.Set;
import java.util.regex.Matcher;
import java.util.regex.Pattern;

/** The texts of the document token by token: what may stand next, told by a state and by what is open. */
final class Grammar {
    private static final Pattern TOKEN = Pattern.compile("[a-zA-Z]+|[0-9]+|[^ \n]");
    private static final Set<String> FACTS = Set.of("doors", "secs", "turns", "air", "gap");

    private final boolean isShow;
    private final List<List<String>> parts = new ArrayList<>();
    private final Deque<String> open = new ArrayDeque<>();
    private String state = "part";
    private boolean isRightSide = false;
    int fault = 0;
    int faultPlace = -1;

    Grammar(boolean isShow) {
        this.isShow = isShow;
    }

    /** The steps or the reasons, each a row of tokens without its ;. */
    List<List<String>> parts() {
        return parts;
    }

    void read(String text) {
        Matcher token = TOKEN.matcher(text);
        while (fault == 0 && token.find()) {
            fault = isShow ? takeOfAShow(token.group()) : takeOfThePamphlet(token.group());
            faultPlace = fault == 0 ? -1 : token.start();
        }
        if (fault == 0 && !state.equals("part")) {
            fault = 1;
            faultPlace = text.length();
        }
    }

    private static boolean isNumber(String token) {
        return token.matches("[0-9]{1,4}");
    }

    private int go(String next) {
        state = next;
        return 0;
    }

    private int start(String token, int most, String next) {
        if (parts.size() == most) {
            return 3;
        }
        parts.add(new ArrayList<>(List.of(token)));
        return go(next);
    }

    private int number(String token, int least, int most, String next) {
        if (!isNumber(token)) {
            return 1;
        }
        int number = Integer.parseInt(token);
        return number < least || number > most ? 2 : go(next);
    }

    private void keep(String token) {
        parts.get(parts.size() - 1).add(token);
    }

    private int takeOfAShow(String token) {
        switch (state) {
            case "part":
                return switch (token) {
                    case "open", "shut", "candle" -> start(token, 40, "door");
                    case "wait" -> start(token, 40, "seconds");
                    case "dark", "turn" -> start(token, 40, "end");
                    default -> 1;
                };
            case "door":
                keep(token);
                return number(token, 0, 9, "end");
            case "seconds":
                keep(token);
                return number(token, 1, 20, "end");
            default:
                return token.equals(";") ? go("part") : 1;
        }
    }

    private int takeOfThePamphlet(String token) {
        if (state.equals("part")) {
            return token.equals("man") || token.equals("none") ? start(token, 20, "when") : 1;
        }
        if (!token.equals(";")) {
            keep(token);
        }
        return switch (state) {
            case "when" -> token.equals("when") ? go("condition") : 1;
            case "condition" -> condition(token);
            case "unit" -> unit(token);
            case "space" -> number(token, 0, 15, "behind a unit");
            case "divisor" -> number(token, 1, 9999, "behind a unit");
            case "behind a unit" -> behindUnit(token);
            default -> behindCondition(token);
        };
    }

    private int condition(String token) {
        if (token.equals("(") || token.equals("no")) {
            if (open.size() == 8) {
                return 3;
            }
            open.push(token);
            return 0;
        }
        isRightSide = false;
        return unit(token);
    }

    private int unit(String token) {
        if (token.equals("seen") || token.equals("works")) {
            return go("space");
        }
        return isNumber(token) || FACTS.contains(token) ? go("behind a unit") : 1;
    }

    private int behindUnit(String token) {
        switch (token) {
            case "+", "-", "*":
                return go("unit");
            case "/":
                return go("divisor");
            case "<", "=", ">":
                if (isRightSide) {
                    return 1;
                }
                isRightSide = true;
                return go("unit");
            default:
                return isRightSide ? behindCondition(token) : 1;
        }
    }

    private int behindCondition(String token) {
        while (!open.isEmpty() && open.peek().equals("no")) {
            open.pop();
        }
        return switch (token) {
            case "or", "and" -> go("condition");
            case ")" -> open.isEmpty() ? 1 : close();
            case ";" -> open.isEmpty() ? go("part") : 1;
            default -> 1;
        };
    }

    private int close() {
        open.pop();
        return go("behind a bracket");
    }
}
