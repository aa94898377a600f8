import java.math.BigInteger;
import java.util.ArrayList;
import java.util.HashMap;
import java.util.HashSet;
import java.util.List;
import java.util.Map;
import java.util.Set;
import java.util.TreeSet;

/** Chests, shows and pamphlets by the dozen, each answer against one found the long way round. */
public final class CrossTest {
    private static final Check c = new Check();
    private static long seed = 20261118L;

    private CrossTest() {
    }

    public static void main(String[] args) {
        hidingRuns();
        orderRuns();
        conditions();
        c.end();
    }

    private static int any(int bound) {
        seed = seed * 6364136223846793005L + 1442695040888963407L;
        return (int) ((seed >>> 33) % bound);
    }

    /** A chest told twice: to the class and to rows here. */
    private static final class Told {
        final WoodenTurk x = new WoodenTurk();
        final boolean[] works = new boolean[16];
        final boolean[][] walls = new boolean[16][16];
        final int[] side = new int[10];
        final int[] spaces = new int[10];
        final boolean[] isFalse = new boolean[10];

        Told(int workCount, int wallCount, int doorCount) {
            for (int i = 0; i < workCount; i++) {
                int s = any(16);
                works[s] = true;
                x.works(0, s, true);
            }
            for (int i = 0; i < wallCount; i++) {
                int s = any(16);
                int t = any(16);
                boolean are = areNeighbours(s, t);
                c.due("wall", x.wall(0, s, t, true), are);
                walls[s][t] |= are;
                walls[t][s] |= are;
            }
            for (int i = 0; i < wallCount / 4; i++) {
                int s = any(16);
                int t = s ^ 1;
                x.wall(0, s, t, false);
                walls[s][t] = false;
                walls[t][s] = false;
            }
            for (int door = 0; door < doorCount; door++) {
                side[door] = any(4) == 0 ? 1 : 0;
                spaces[door] = (any(256) & any(256)) << 8 * side[door];
                isFalse[door] = any(4) == 0;
                x.door(0, door, side[door], spaces[door], isFalse[door]);
            }
        }

        static boolean areNeighbours(int s, int t) {
            return Math.abs(s % 4 - t % 4) + Math.abs(s / 4 % 2 - t / 4 % 2) + Math.abs(s / 8 - t / 8) == 1;
        }

        boolean passage(int s, int t) {
            return areNeighbours(s, t) && !walls[s][t];
        }

        boolean isPose(int set, int size) {
            if (Integer.bitCount(set) != size) {
                return false;
            }
            int reached = Integer.lowestOneBit(set);
            for (int round = 0; round < 16; round++) {
                for (int s = 0; s < 16; s++) {
                    for (int t = 0; t < 16; t++) {
                        if ((reached >> s & 1) == 1 && (set >> t & 1) == 1 && passage(s, t)) {
                            reached |= 1 << t;
                        }
                    }
                }
            }
            for (int s = 0; s < 16; s++) {
                if ((set >> s & 1) == 1 && works[s]) {
                    return false;
                }
            }
            return reached == set;
        }

        List<Integer> poses(int size) {
            List<Integer> found = new ArrayList<>();
            for (int set = 1; set < 65536; set++) {
                if (Integer.bitCount(set) == size && isPose(set, size)) {
                    found.add(set);
                }
            }
            return found;
        }

        Map<Integer, Set<Integer>> moves(List<Integer> poses) {
            Map<Integer, Set<Integer>> moves = new HashMap<>();
            for (int from : poses) {
                Set<Integer> next = new TreeSet<>();
                for (int to : poses) {
                    if (from == to || isMove(from, to)) {
                        next.add(to);
                    }
                }
                moves.put(from, next);
            }
            return moves;
        }

        private boolean isMove(int from, int to) {
            if (Integer.bitCount(to & ~from) != 1) {
                return false;
            }
            int fresh = Integer.numberOfTrailingZeros(to & ~from);
            for (int s = 0; s < 16; s++) {
                if ((from >> s & 1) == 1 && passage(s, fresh)) {
                    return true;
                }
            }
            return false;
        }

        int view(int door, boolean lit) {
            int view = spaces[door];
            for (int s = 0; s < 16; s++) {
                if (lit && !isFalse[door] && (spaces[door] >> s & 1) == 1 && !works[s]) {
                    view |= 1 << (s + 8) % 16;
                }
            }
            return view;
        }
    }

    /** A show told twice. */
    private static final class Script {
        final StringBuilder text = new StringBuilder();
        final List<Integer> film = new ArrayList<>();
        private final Set<Integer> open = new TreeSet<>();
        private int candle = -1;
        private int side = 0;

        void step(Told told, String word, int number) {
            text.append(word);
            if (number >= 0) {
                text.append(' ').append(number);
            }
            text.append(';');
            switch (word) {
                case "open" -> open.add(number);
                case "shut" -> open.remove(number);
                case "candle" -> candle = number;
                case "dark" -> candle = -1;
                case "turn" -> side = 1 - side;
                default -> { }
            }
            int view = 0;
            for (int door : open) {
                if (told.side[door] == side) {
                    view |= told.view(door, door == candle);
                }
            }
            for (int i = 0; i < (word.equals("wait") ? number : 1); i++) {
                film.add(view);
            }
        }

        static Script random(Told told, int steps) {
            Script script = new Script();
            String[] words = {"open", "shut", "candle", "open", "candle", "shut", "dark", "turn", "wait"};
            for (int i = 0; i < steps; i++) {
                String word = words[any(words.length)];
                int number = word.equals("wait") ? 1 + any(4) : word.equals("dark") || word.equals("turn") ? -1 : any(10);
                script.step(told, word, number);
            }
            return script;
        }
    }

    /** The poses in which he can be in the end, or, where it goes wrong, the second as -1 - second. */
    private static int follow(Map<Integer, Set<Integer>> moves, List<Integer> film) {
        Set<Integer> now = new TreeSet<>(moves.keySet());
        if (now.isEmpty()) {
            return -1;
        }
        for (int second = 0; second < film.size(); second++) {
            Set<Integer> later = new TreeSet<>();
            for (int pose : now) {
                for (int next : moves.get(pose)) {
                    if ((next & film.get(second)) == 0) {
                        later.add(next);
                    }
                }
            }
            now = later;
            if (now.isEmpty()) {
                return -1 - second;
            }
        }
        return now.size();
    }

    /** The first way from a pose ahead of a second on, or null; dead holds what was tried in vain. */
    private static List<Integer> firstWay(Map<Integer, Set<Integer>> moves, List<Integer> film, int pose, int second,
            Set<Long> dead) {
        if (second == film.size()) {
            return new ArrayList<>(List.of(pose));
        }
        if (!dead.contains(second * 65536L + pose)) {
            for (int next : moves.get(pose)) {
                if ((next & film.get(second)) == 0) {
                    List<Integer> rest = firstWay(moves, film, next, second + 1, dead);
                    if (rest != null) {
                        rest.add(0, pose);
                        return rest;
                    }
                }
            }
            dead.add(second * 65536L + pose);
        }
        return null;
    }

    private static void hidingRuns() {
        c.test("9 to 13 poses, shows, hiding and ways against the long way round");
        for (int round = 0; round < 80; round++) {
            // the last rounds have little room, so that some sizes have no pose, and short shows
            boolean isNarrow = round >= 60;
            Told told = new Told(isNarrow ? 10 + any(25) : any(9), any(60), 10);
            Script script = Script.random(told, any(isNarrow ? 3 : 31));
            c.due("text", Texts.read(told.x, 2, script.text.toString()), script.text.toString().split(";").length
                - (script.text.isEmpty() ? 1 : 0));
            int all = 0;
            for (int second = 0; second < script.film.size(); second++) {
                c.due("seen", told.x.seen(0, 2, second), script.film.get(second));
                all |= script.film.get(second);
            }
            c.due("seconds", told.x.run(0, 2, 0), script.film.size());
            c.due("all seen", told.x.run(0, 2, 1), all);
            for (int size = 1; size <= 4; size++) {
                checkHiding(told, script.film, size);
            }
        }
    }

    private static void checkHiding(Told told, List<Integer> film, int size) {
        List<Integer> poses = told.poses(size);
        Map<Integer, Set<Integer>> moves = told.moves(poses);
        c.due("poses", told.x.poses(0, size), poses.size());
        int well = follow(moves, film);
        c.due("hide 0", told.x.hide(0, 2, size, 0), well > 0 ? 1 : 0);
        c.due("hide 1", told.x.hide(0, 2, size, 1), well < 0 ? -1 - well : -1);
        c.due("hide 2", told.x.hide(0, 2, size, 2), Math.max(0, well));
        List<Integer> way = null;
        Set<Long> dead = new HashSet<>();
        for (int i = 0; i < poses.size() && way == null; i++) {
            way = firstWay(moves, film, poses.get(i), 0, dead);
        }
        for (int k = 0; k <= film.size(); k += 1 + any(3)) {
            c.due("way " + k, told.x.way(0, 2, size, k), way == null ? -1 : way.get(k));
        }
    }

    private static void orderRuns() {
        c.test("14, 15 orders and proofs against the long way round");
        for (int round = 0; round < 40; round++) {
            Told told = new Told(any(12), any(60), 10);
            int size = 1 + any(4);
            Map<Integer, Set<Integer>> moves = told.moves(told.poses(size));
            for (int i = 0; i < 3; i++) {
                int doors = 1 << any(10) | 1 << any(10) | 1 << any(10) | 1 << any(10);
                checkOrder(told, moves, doors, 1 + any(5), size);
                int refused = any(1024) & any(1024) & any(1024);
                c.due("proof", told.x.proof(0, size, refused), proof(told, moves.keySet(), refused));
            }
        }
    }

    private static void checkOrder(Told told, Map<Integer, Set<Integer>> moves, int doors, int wait, int size) {
        List<List<Integer>> rows = new ArrayList<>();
        addRows(rows, new ArrayList<>(), doors);
        List<Integer> best = null;
        int most = -1;
        for (List<Integer> row : rows) {
            Script script = new Script();
            int all = 0;
            for (int door : row) {
                script.step(told, "candle", door);
                script.step(told, "open", door);
                script.step(told, "wait", wait);
                script.step(told, "shut", door);
            }
            for (int view : script.film) {
                all |= view;
            }
            int seen = Integer.bitCount(all);
            if (follow(moves, script.film) > 0 && (seen > most || seen == most && isBefore(row, best))) {
                best = row;
                most = seen;
            }
        }
        c.due("order 0", told.x.order(0, doors, wait, size, 0), best == null ? -1 : most);
        c.due("order 1", told.x.order(0, doors, wait, size, 1), best == null ? -1 : best.size());
        for (int k = 0; k < 5; k++) {
            c.due("order " + (2 + k), told.x.order(0, doors, wait, size, 2 + k),
                best == null || k >= best.size() ? -1 : best.get(k));
        }
    }

    private static void addRows(List<List<Integer>> rows, List<Integer> row, int doors) {
        rows.add(new ArrayList<>(row));
        for (int door = 9; door >= 0; door--) {
            if ((doors >> door & 1) == 1 && !row.contains(door)) {
                row.add(door);
                addRows(rows, row, doors);
                row.remove(row.size() - 1);
            }
        }
    }

    private static boolean isBefore(List<Integer> a, List<Integer> b) {
        if (a.size() != b.size()) {
            return a.size() < b.size();
        }
        for (int i = 0; i < a.size(); i++) {
            if (!a.get(i).equals(b.get(i))) {
                return a.get(i) < b.get(i);
            }
        }
        return false;
    }

    private static int proof(Told told, Set<Integer> poses, int refused) {
        for (int count = 0; count <= 10; count++) {
            for (int set = 0; set < 1024; set++) {
                if (Integer.bitCount(set) == count && (set & refused) == 0) {
                    int view = 0;
                    for (int door = 0; door < 10; door++) {
                        view |= (set >> door & 1) == 1 ? told.view(door, true) : 0;
                    }
                    int seen = view;
                    if (poses.stream().allMatch(pose -> (pose & seen) != 0)) {
                        return set;
                    }
                }
            }
        }
        return -1;
    }

    /** A condition as a text, and whether it is so in an object without shows. */
    private record Condition(String text, boolean so) {
    }

    private record Value(String text, BigInteger number) {
    }

    private static void conditions() {
        c.test("16 conditions of a pamphlet against the long way round");
        WoodenTurk x = new WoodenTurk();
        for (int round = 0; round < 3000; round++) {
            Condition condition = choice(3);
            String text = "none when " + condition.text + ";";
            if (text.length() <= 600) {
                if (round % 10 == 0) {
                    x = new WoodenTurk();
                }
                c.due(text, Texts.read(x, 4, text), 1);
                c.due(text, x.reason(0), condition.so ? 1 : 0);
            }
        }
    }

    private static String blank() {
        return any(3) == 0 ? "\n" : " ";
    }

    private static Condition choice(int depth) {
        Condition found = both(depth);
        for (int i = any(3); i > 1; i--) {
            Condition more = both(depth);
            found = new Condition(found.text + blank() + "or" + blank() + more.text, found.so | more.so);
        }
        return found;
    }

    private static Condition both(int depth) {
        Condition found = single(depth);
        for (int i = any(3); i > 1; i--) {
            Condition more = single(depth);
            found = new Condition(found.text + blank() + "and" + blank() + more.text, found.so & more.so);
        }
        return found;
    }

    private static Condition single(int depth) {
        int kind = any(4);
        if (depth > 0 && kind == 0) {
            Condition inner = single(depth - 1);
            return new Condition("no " + inner.text, !inner.so);
        }
        if (depth > 0 && kind == 1) {
            Condition inner = choice(depth - 1);
            return new Condition("(" + inner.text + ")", inner.so);
        }
        Value a = sum();
        Value b = any(3) == 0 ? new Value(a.text + "+0", a.number) : sum();
        int order = a.number.compareTo(b.number);
        int sign = any(3);
        return new Condition(a.text + "<=>".charAt(sign) + b.text, Integer.signum(order) == sign - 1);
    }

    private static Value sum() {
        Value found = product();
        for (int i = any(4); i > 1; i--) {
            Value more = product();
            boolean plus = any(2) == 0;
            found = new Value(found.text + (plus ? " + " : "-") + more.text,
                plus ? found.number.add(more.number) : found.number.subtract(more.number));
        }
        return found;
    }

    private static Value product() {
        Value found = unit();
        for (int i = any(5) * any(4); i > 1; i--) {
            if (any(3) == 0) {
                int part = 1 + any(any(2) == 0 ? 9 : 9999);
                found = new Value(found.text + "/" + part, found.number.divide(BigInteger.valueOf(part)));
            } else {
                Value more = unit();
                found = new Value(found.text + " *" + more.text, found.number.multiply(more.number));
            }
        }
        return found;
    }

    private static Value unit() {
        int number = switch (any(4)) {
            case 0 -> any(10);
            case 1 -> 9999;
            default -> any(10000);
        };
        return switch (any(12)) {
            case 0 -> new Value("air", BigInteger.valueOf(960));
            case 1 -> new Value("gap", BigInteger.valueOf(16));
            case 2 -> new Value("secs", BigInteger.ZERO);
            case 3 -> new Value("seen " + any(16), BigInteger.ZERO);
            default -> new Value(Integer.toString(number), BigInteger.valueOf(number));
        };
    }
}
