import java.math.BigInteger;
import java.nio.ByteBuffer;
import java.util.ArrayList;
import java.util.Arrays;
import java.util.Comparator;
import java.util.List;
import java.util.Set;
import java.util.TreeMap;
import java.util.TreeSet;
import java.util.function.IntPredicate;
import java.util.stream.Collectors;
import java.util.stream.IntStream;

/** The document told a second time, with no regard to time and room: every answer is found anew from what was told. */
final class Model {
    private static final int NONE = -1;

    private record Step(String word, int number) {
    }

    private record Door(int side, Set<Integer> spaces, boolean isFalse) {
    }

    private record Move(int f, int t) {
    }

    private record Couple(Move to, Move own) {
    }

    private record Master(int strength, int from, int to, int[] habits) {
    }

    private record Stay(int master, int town, int year) {
    }

    private record Night(int year, int town, int strength, int result, int answer) {
    }

    private record Writer(int number, int year, Set<Integer> claims) {
    }

    /** What one watches: in each second the spaces seen, and by step how many doors are open and whether it turns. */
    private record Film(List<Set<Integer>> seconds, int mostOpen, int turns) {
        Set<Integer> all() {
            return seconds.stream().flatMap(Set::stream).collect(Collectors.toCollection(TreeSet::new));
        }
    }

    private final boolean[][] works = new boolean[3][16];
    private final boolean[][][] walls = new boolean[3][16][16];
    private final Door[][] doors = new Door[3][10];
    private final StringBuilder tape = new StringBuilder();
    private final List<List<Step>> shows = new ArrayList<>();
    private List<List<String>> reasons = new ArrayList<>();
    private int fault = 0;
    private int faultPlace = NONE;
    private final int[] pieces = new int[64];
    private final int[] known = new int[64];
    private final boolean[] sticks = new boolean[64];
    private final List<Master> masters = new ArrayList<>();
    private final List<Stay> stays = new ArrayList<>();
    private final List<Night> nights = new ArrayList<>();
    private final List<Couple> couples = new ArrayList<>();
    private final List<Move> game = new ArrayList<>();
    private final List<Writer> writers = new ArrayList<>();
    private Set<Integer> truth = Set.of();

    Model() {
        for (Door[] ofAChest : doors) {
            Arrays.fill(ofAChest, new Door(0, Set.of(), false));
        }
        for (int k = 0; k < 4; k++) {
            shows.add(List.of());
        }
    }

    private static boolean isIn(int number, int least, int most) {
        return least <= number && number <= most;
    }

    private static Set<Integer> toSet(int bits) {
        return IntStream.range(0, 32).filter(i -> (bits >>> i) % 2 == 1).boxed().collect(Collectors.toCollection(TreeSet::new));
    }

    private static int toBits(Set<Integer> set) {
        return set.stream().mapToInt(i -> 1 << i).sum();
    }

    private static boolean meet(Set<Integer> a, Set<Integer> b) {
        return a.stream().anyMatch(b::contains);
    }

    // 1. chests

    private static boolean areNeighbours(int s, int t) {
        List<Integer> differences = new ArrayList<>(List.of(Math.abs(s % 4 - t % 4), Math.abs(s / 4 % 2 - t / 4 % 2),
            Math.abs(s / 8 - t / 8)));
        differences.sort(Comparator.naturalOrder());
        return differences.equals(List.of(0, 0, 1));
    }

    private boolean isPassage(int chest, int s, int t) {
        return areNeighbours(s, t) && !walls[chest][s][t];
    }

    boolean works(int chest, int space, boolean are) {
        if (!isIn(chest, 0, 2) || !isIn(space, 0, 15)) {
            return false;
        }
        works[chest][space] = are;
        return true;
    }

    boolean wall(int chest, int s, int t, boolean is) {
        if (!isIn(chest, 0, 2) || !isIn(s, 0, 15) || !isIn(t, 0, 15) || !areNeighbours(s, t)) {
            return false;
        }
        walls[chest][s][t] = is;
        walls[chest][t][s] = is;
        return true;
    }

    boolean door(int chest, int door, int side, int spaces, boolean isFalse) {
        if (!isIn(chest, 0, 2) || !isIn(door, 0, 9) || !isIn(side, 0, 1) || !isIn(spaces, 0, 65535)
            || toSet(spaces).stream().anyMatch(s -> s / 8 != side)) {
            return false;
        }
        doors[chest][door] = new Door(side, toSet(spaces), isFalse);
        return true;
    }

    // texts

    int feed(int a, int b, int c, int d, int e) {
        if (tape.length() > 580) {
            return NONE;
        }
        for (byte part : ByteBuffer.allocate(20).putInt(a).putInt(b).putInt(c).putInt(d).putInt(e).array()) {
            tape.append((char) (part & 255));
        }
        return tape.length();
    }

    boolean end(int n) {
        if (!isIn(n, 0, tape.length())) {
            return false;
        }
        tape.setLength(n);
        return true;
    }

    int text(int k) {
        String text = tape.toString();
        tape.setLength(0);
        fault = 0;
        faultPlace = NONE;
        if (!isIn(k, 0, 4)) {
            return NONE;
        }
        Grammar grammar = new Grammar(k < 4);
        grammar.read(text);
        if (grammar.fault != 0) {
            fault = grammar.fault;
            faultPlace = grammar.faultPlace;
            return NONE;
        }
        if (k == 4) {
            reasons = grammar.parts();
            return reasons.size();
        }
        List<Step> steps = new ArrayList<>();
        for (List<String> part : grammar.parts()) {
            steps.add(new Step(part.get(0), part.size() > 1 ? Integer.parseInt(part.get(1)) : NONE));
        }
        shows.set(k, steps);
        return steps.size();
    }

    int fault(int what) {
        return what == 0 ? fault : what == 1 ? faultPlace : NONE;
    }

    // shows and hiding

    private Set<Integer> shown(int chest, int door, boolean lit) {
        Set<Integer> shown = new TreeSet<>(doors[chest][door].spaces);
        if (lit && !doors[chest][door].isFalse) {
            doors[chest][door].spaces.stream().filter(s -> !works[chest][s]).forEach(s -> shown.add((s + 8) % 16));
        }
        return shown;
    }

    private Film film(int chest, List<Step> steps) {
        List<Set<Integer>> seconds = new ArrayList<>();
        Set<Integer> open = new TreeSet<>();
        int mostOpen = 0;
        int turns = 0;
        int candle = NONE;
        for (Step step : steps) {
            switch (step.word) {
                case "open" -> open.add(step.number);
                case "shut" -> open.remove(step.number);
                case "candle" -> candle = step.number;
                case "dark" -> candle = NONE;
                case "turn" -> turns++;
                default -> { }
            }
            mostOpen = Math.max(mostOpen, open.size());
            Set<Integer> seen = new TreeSet<>();
            for (int door : open) {
                if (doors[chest][door].side == turns % 2) {
                    seen.addAll(shown(chest, door, door == candle));
                }
            }
            for (int i = 0; i < (step.word.equals("wait") ? step.number : 1); i++) {
                seconds.add(seen);
            }
        }
        return new Film(seconds, mostOpen, turns);
    }

    private boolean isPose(int chest, Set<Integer> spaces) {
        Set<Integer> reached = new TreeSet<>();
        reach(chest, spaces, spaces.iterator().next(), reached);
        return reached.equals(spaces) && spaces.stream().noneMatch(s -> works[chest][s]);
    }

    private void reach(int chest, Set<Integer> spaces, int from, Set<Integer> reached) {
        if (reached.add(from)) {
            spaces.stream().filter(s -> isPassage(chest, from, s)).forEach(s -> reach(chest, spaces, s, reached));
        }
    }

    /** The poses by number, each with those that he can be in a second later. */
    private TreeMap<Integer, Set<Integer>> poseMap(int chest, int size) {
        TreeMap<Integer, Set<Integer>> poses = new TreeMap<>();
        for (int bits = 0; bits < 65536; bits++) {
            if (Integer.bitCount(bits) == size && isPose(chest, toSet(bits))) {
                poses.put(bits, new TreeSet<>(List.of(bits)));
            }
        }
        for (int from : poses.keySet()) {
            for (int left : toSet(from)) {
                IntStream.range(0, 16).filter(s -> (from >> s) % 2 == 0)
                    .filter(s -> toSet(from).stream().anyMatch(had -> isPassage(chest, had, s)))
                    .map(s -> from - (1 << left) + (1 << s)).filter(poses::containsKey).forEach(poses.get(from)::add);
            }
        }
        return poses;
    }

    /** In which poses he can be ahead of the first second and behind each, up to the first in which there is none. */
    private static List<Set<Integer>> forward(TreeMap<Integer, Set<Integer>> poses, List<Set<Integer>> seconds) {
        List<Set<Integer>> row = new ArrayList<>();
        row.add(poses.keySet());
        for (int i = 0; i < seconds.size() && !row.get(i).isEmpty(); i++) {
            Set<Integer> seen = seconds.get(i);
            row.add(row.get(i).stream().flatMap(pose -> poses.get(pose).stream()).filter(pose -> !meet(toSet(pose), seen))
                .collect(Collectors.toCollection(TreeSet::new)));
        }
        return row;
    }

    /** Of the poses behind each second those from which it goes well to the end. */
    private static List<Set<Integer>> backward(TreeMap<Integer, Set<Integer>> poses, List<Set<Integer>> seconds,
            List<Set<Integer>> forward) {
        List<Set<Integer>> row = new ArrayList<>(forward);
        for (int i = seconds.size() - 1; i >= 0; i--) {
            Set<Integer> later = row.get(i + 1);
            row.set(i, forward.get(i).stream().filter(pose -> meet(poses.get(pose), later))
                .collect(Collectors.toCollection(TreeSet::new)));
        }
        return row;
    }

    int poses(int chest, int size) {
        return isIn(chest, 0, 2) && isIn(size, 1, 4) ? poseMap(chest, size).size() : NONE;
    }

    int seen(int chest, int show, int second) {
        if (!isIn(chest, 0, 2) || !isIn(show, 0, 3)) {
            return NONE;
        }
        List<Set<Integer>> seconds = film(chest, shows.get(show)).seconds;
        return isIn(second, 0, seconds.size() - 1) ? toBits(seconds.get(second)) : NONE;
    }

    int run(int chest, int show, int what) {
        if (!isIn(chest, 0, 2) || !isIn(show, 0, 3) || !isIn(what, 0, 3)) {
            return NONE;
        }
        Film film = film(chest, shows.get(show));
        return new int[] {film.seconds.size(), toBits(film.all()), film.mostOpen, film.turns}[what];
    }

    int hide(int chest, int show, int size, int what) {
        if (!isIn(chest, 0, 2) || !isIn(show, 0, 3) || !isIn(size, 1, 4) || !isIn(what, 0, 2)) {
            return NONE;
        }
        List<Set<Integer>> row = forward(poseMap(chest, size), film(chest, shows.get(show)).seconds);
        int inTheEnd = row.get(row.size() - 1).size();
        // the row's last set is of the second that fails; ahead of the first second there is none, if there is no pose
        return new int[] {inTheEnd > 0 ? 1 : 0, inTheEnd > 0 ? NONE : Math.max(0, row.size() - 2), inTheEnd}[what];
    }

    int way(int chest, int show, int size, int k) {
        if (!isIn(chest, 0, 2) || !isIn(show, 0, 3) || !isIn(size, 1, 4)) {
            return NONE;
        }
        List<Set<Integer>> seconds = film(chest, shows.get(show)).seconds;
        TreeMap<Integer, Set<Integer>> poses = poseMap(chest, size);
        List<Set<Integer>> row = forward(poses, seconds);
        if (row.get(row.size() - 1).isEmpty() || !isIn(k, 0, seconds.size())) {
            return NONE;
        }
        List<Set<Integer>> good = backward(poses, seconds, row);
        int pose = good.get(0).iterator().next();
        for (int i = 1; i <= k; i++) {
            Set<Integer> next = new TreeSet<>(poses.get(pose));
            next.retainAll(good.get(i));
            pose = next.iterator().next();
        }
        return pose;
    }

    // 2. orders, proofs, the pamphlet

    private static void addRows(List<List<Integer>> rows, List<Integer> row, Set<Integer> of) {
        rows.add(row);
        for (int door : of) {
            if (!row.contains(door)) {
                List<Integer> longer = new ArrayList<>(row);
                longer.add(door);
                addRows(rows, longer, of);
            }
        }
    }

    private static List<Step> steps(List<Integer> row, int wait) {
        List<Step> steps = new ArrayList<>();
        for (int door : row) {
            steps.addAll(List.of(new Step("candle", door), new Step("open", door), new Step("wait", wait), new Step("shut", door)));
        }
        return steps;
    }

    int order(int chest, int doors, int wait, int size, int what) {
        if (!isIn(chest, 0, 2) || !isIn(doors, 0, 1023) || toSet(doors).size() > 4 || !isIn(wait, 1, 5) || !isIn(size, 1, 4)) {
            return NONE;
        }
        TreeMap<Integer, Set<Integer>> poses = poseMap(chest, size);
        List<List<Integer>> rows = new ArrayList<>();
        addRows(rows, List.of(), toSet(doors));
        rows.removeIf(row -> {
            List<Set<Integer>> found = forward(poses, film(chest, steps(row, wait)).seconds);
            return found.get(found.size() - 1).isEmpty();
        });
        if (rows.isEmpty()) {
            return NONE;
        }
        Comparator<List<Integer>> mostSeen = Comparator.comparing(row -> -film(chest, steps(row, wait)).all().size());
        List<Integer> best = rows.stream().min(mostSeen.thenComparing(List::size).thenComparing(List::toString)).get();
        if (what == 0) {
            return film(chest, steps(best, wait)).all().size();
        }
        return what == 1 ? best.size() : isIn(what - 2, 0, best.size() - 1) && what > 0 ? best.get(what - 2) : NONE;
    }

    int proof(int chest, int size, int refused) {
        if (!isIn(chest, 0, 2) || !isIn(size, 1, 4) || !isIn(refused, 0, 1023)) {
            return NONE;
        }
        Set<Integer> poses = poseMap(chest, size).keySet();
        IntPredicate proves = set -> {
            Set<Integer> seen = new TreeSet<>();
            toSet(set).forEach(door -> seen.addAll(shown(chest, door, true)));
            return poses.stream().allMatch(pose -> meet(toSet(pose), seen));
        };
        return IntStream.range(0, 1024).filter(set -> !meet(toSet(set), toSet(refused))).filter(proves).boxed()
            .min(Comparator.<Integer, Integer>comparing(Integer::bitCount).thenComparing(Comparator.naturalOrder())).orElse(NONE);
    }

    private static List<List<String>> splitAt(List<String> tokens, Set<String> signs) {
        List<List<String>> parts = new ArrayList<>(List.of(new ArrayList<>()));
        int open = 0;
        for (String token : tokens) {
            open += token.equals("(") ? 1 : token.equals(")") ? -1 : 0;
            if (open == 0 && signs.contains(token)) {
                parts.add(new ArrayList<>());
            } else {
                parts.get(parts.size() - 1).add(token);
            }
        }
        return parts;
    }

    private boolean isSo(List<String> tokens) {
        return splitAt(tokens, Set.of("or")).stream()
            .anyMatch(part -> splitAt(part, Set.of("and")).stream().allMatch(this::isOneSo));
    }

    private boolean isOneSo(List<String> tokens) {
        List<String> rest = tokens.subList(1, tokens.size());
        if (tokens.get(0).equals("no")) {
            return !isOneSo(rest);
        }
        if (tokens.get(0).equals("(")) {
            return isSo(rest.subList(0, rest.size() - 1));
        }
        List<List<String>> sides = splitAt(tokens, Set.of("<", "=", ">"));
        int order = sum(sides.get(0)).compareTo(sum(sides.get(1)));
        return order == (tokens.contains("<") ? -1 : tokens.contains("=") ? 0 : 1);
    }

    private BigInteger sum(List<String> tokens) {
        BigInteger sum = BigInteger.ZERO;
        List<String> signs = new ArrayList<>(tokens);
        signs.removeIf(token -> !Set.of("+", "-").contains(token));
        signs.add(0, "+");
        List<List<String>> parts = splitAt(tokens, Set.of("+", "-"));
        for (int i = 0; i < parts.size(); i++) {
            sum = signs.get(i).equals("+") ? sum.add(product(parts.get(i))) : sum.subtract(product(parts.get(i)));
        }
        return sum;
    }

    private BigInteger product(List<String> tokens) {
        BigInteger product = BigInteger.ONE;
        String sign = "*";
        for (int i = 0; i < tokens.size(); i++) {
            String token = tokens.get(i);
            if (Set.of("*", "/").contains(token)) {
                sign = token;
            } else {
                boolean isOfASpace = Set.of("seen", "works").contains(token);
                BigInteger unit = BigInteger.valueOf(unit(token, isOfASpace ? Integer.parseInt(tokens.get(++i)) : NONE));
                product = sign.equals("*") ? product.multiply(unit) : product.divide(unit);
            }
        }
        return product;
    }

    private int unit(String token, int space) {
        return switch (token) {
            case "seen" -> toSet(run(0, 0, 1)).contains(space) ? 1 : 0;
            case "works" -> works[0][space] ? 1 : 0;
            case "doors" -> run(0, 0, 2);
            case "secs" -> run(0, 0, 0);
            case "turns" -> run(0, 0, 3);
            case "air" -> air(0, 0, 0);
            case "gap" -> (int) IntStream.range(0, 16).filter(s -> !works[0][s] && !toSet(run(0, 0, 1)).contains(s)).count();
            default -> Integer.parseInt(token);
        };
    }

    int reason(int k) {
        if (!isIn(k, 0, reasons.size() - 1)) {
            return NONE;
        }
        List<String> tokens = reasons.get(k);
        if (!isSo(tokens.subList(2, tokens.size()))) {
            return 0;
        }
        return tokens.get(0).equals(hide(0, 0, 2, 0) == 1 ? "man" : "none") ? 2 : 1;
    }

    int pamphlet(int what) {
        if (what == 3) {
            return hide(0, 0, 2, 0);
        }
        return isIn(what, 0, 2) ? (int) IntStream.range(0, reasons.size()).filter(k -> reason(k) == 2 - what).count() : NONE;
    }

    // 3. air and boards

    int air(int chest, int size, int candles) {
        if (!isIn(chest, 0, 2) || !isIn(size, 0, 4) || !isIn(candles, 0, 3)) {
            return NONE;
        }
        int air = 60 * (int) IntStream.range(0, 16).filter(s -> !works[chest][s]).count();
        if (size == 0) {
            return air;
        }
        int comes = (int) Arrays.stream(doors[chest]).filter(door -> !door.isFalse && !door.spaces.isEmpty()).count();
        int minutes = 0;
        while (air >= 20 && minutes < 10000) {
            air += comes - 2 * size - 5 * candles;
            minutes++;
        }
        return Math.max(0, minutes - 1);
    }

    boolean piece(int square, int piece) {
        if (!isIn(square, 0, 63) || !isIn(piece, 0, 12)) {
            return false;
        }
        pieces[square] = piece;
        known[square] = piece;
        return true;
    }

    boolean stick(int square, boolean is) {
        if (!isIn(square, 0, 63)) {
            return false;
        }
        sticks[square] = is;
        return true;
    }

    private static boolean isMove(int f, int t) {
        return isIn(f, 0, 63) && isIn(t, 0, 63) && f != t;
    }

    boolean move(int f, int t, int becomes) {
        if (!isMove(f, t) || pieces[f] == 0 || becomes != NONE && !isIn(becomes, 1, 12)) {
            return false;
        }
        int knew = known[f];
        pieces[t] = becomes == NONE ? pieces[f] : becomes;
        pieces[f] = 0;
        if (!sticks[t]) {
            known[t] = 13;
        }
        if (!sticks[f]) {
            known[f] = 0;
            known[t] = sticks[t] ? known[t] : knew == 0 ? 13 : knew;
        }
        return true;
    }

    int board(int square, int what) {
        int wrong = (int) IntStream.range(0, 64).filter(s -> known[s] != 13 && known[s] != pieces[s]).count();
        int open = (int) IntStream.range(0, 64).filter(s -> known[s] == 13).count();
        return switch (what) {
            case 0 -> isIn(square, 0, 63) ? pieces[square] : NONE;
            case 1 -> isIn(square, 0, 63) ? known[square] : NONE;
            case 2 -> wrong;
            case 3 -> open;
            default -> NONE;
        };
    }

    // 4. masters and games

    int master(int size, int strength, int from, int to) {
        if (!isIn(size, 1, 4) || !isIn(strength, 0, 99) || !isIn(from, 0, 99) || !isIn(to, from, 99) || masters.size() == 12) {
            return NONE;
        }
        masters.add(new Master(strength, from, to, new int[] {1, 1, 1}));
        return masters.size() - 1;
    }

    boolean was(int master, int town, int year) {
        Stay stay = new Stay(master, town, year);
        return isIn(master, 0, masters.size() - 1) && isIn(town, 0, 9) && isIn(year, 0, 99) && stays.size() < 200
            && !stays.contains(stay) && stays.add(stay);
    }

    boolean habit(int master, int answer, int weight) {
        if (!isIn(master, 0, masters.size() - 1) || !isIn(answer, 0, 2) || !isIn(weight, 0, 9)) {
            return false;
        }
        masters.get(master).habits[answer] = weight;
        return true;
    }

    int night(int year, int town, int strength, int result, int answer) {
        if (!isIn(year, 0, 99) || !isIn(town, 0, 9) || !isIn(strength, 0, 99) || !isIn(result, 0, 2) || !isIn(answer, -1, 2)
            || nights.size() == 60) {
            return NONE;
        }
        nights.add(new Night(year, town, strength, result, answer));
        return nights.size() - 1;
    }

    private int weight(int number, Night night) {
        Master master = masters.get(number);
        boolean elsewhere = stays.stream().anyMatch(stay -> stay.master == number && stay.year == night.year
            && stay.town != night.town);
        if (!isIn(night.year, master.from, master.to)
            || elsewhere && !stays.contains(new Stay(number, night.town, night.year))) {
            return 0;
        }
        int d = master.strength - night.strength;
        int weight = switch (night.result) {
            case 2 -> Math.min(99, Math.max(1, 50 + d));
            case 0 -> Math.min(99, Math.max(1, 50 - d));
            default -> Math.max(1, 50 - Math.abs(d / 2));
        };
        return night.answer == NONE ? weight : weight * master.habits[night.answer];
    }

    private int odds(BigInteger[] weights, int master) {
        BigInteger together = Arrays.stream(weights).reduce(BigInteger.ZERO, BigInteger::add);
        return together.signum() == 0 ? NONE
            : weights[master].multiply(BigInteger.valueOf(1000)).divide(together).intValueExact();
    }

    int who(int night, int master, int what) {
        if (!isIn(night, 0, nights.size() - 1) || !isIn(master, 0, masters.size() - 1) || !isIn(what, 0, 1)) {
            return NONE;
        }
        return what == 1 ? weight(master, nights.get(night)) : all(night, night, master);
    }

    int all(int a, int b, int master) {
        if (!isIn(a, 0, nights.size() - 1) || !isIn(b, a, nights.size() - 1) || !isIn(master, 0, masters.size() - 1)) {
            return NONE;
        }
        BigInteger[] weights = new BigInteger[masters.size()];
        Arrays.fill(weights, BigInteger.ONE);
        for (Night night : nights.subList(a, b + 1)) {
            for (int i = 0; i < weights.length; i++) {
                weights[i] = weights[i].multiply(BigInteger.valueOf(weight(i, night)));
            }
            if (Arrays.stream(weights).anyMatch(weight -> weight.compareTo(BigInteger.valueOf(1000000000)) > 0)) {
                Arrays.setAll(weights, i -> weights[i].divide(BigInteger.valueOf(1000)));
            }
        }
        return odds(weights, master);
    }

    int cam(int f, int t, int ownF, int ownT) {
        if (!isMove(f, t) || !isMove(ownF, ownT) || couples.size() == 60) {
            return NONE;
        }
        couples.add(0, new Couple(new Move(f, t), new Move(ownF, ownT)));
        return couples.size();
    }

    int game(int f, int t) {
        if (!isMove(f, t) || game.size() == 40) {
            return NONE;
        }
        game.add(new Move(f, t));
        return game.size();
    }

    int alone(int what) {
        int alone = 0;
        for (int i = 1; i < game.size(); i += 2) {
            Move ahead = game.get(i - 1);
            Move told = couples.stream().filter(couple -> couple.to.equals(ahead)).map(Couple::own).findFirst().orElse(null);
            if (!game.get(i).equals(told)) {
                break;
            }
            alone++;
        }
        int had = game.size();
        if (what == 2) {
            game.clear();
        }
        return switch (what) {
            case 0 -> alone;
            case 1 -> alone == had / 2 ? 1 : 0;
            case 2 -> had;
            default -> NONE;
        };
    }

    // 5. writers

    int writer(int year, int claims) {
        if (!isIn(year, 0, 99) || !isIn(claims, 0, (1 << 30) - 1) || writers.size() == 20) {
            return NONE;
        }
        writers.add(new Writer(writers.size(), year, toSet(claims)));
        return writers.size() - 1;
    }

    boolean truth(int claims) {
        if (!isIn(claims, 0, (1 << 30) - 1)) {
            return false;
        }
        truth = toSet(claims);
        return true;
    }

    private List<Writer> byYear() {
        List<Writer> row = new ArrayList<>(writers);
        row.sort(Comparator.comparing(Writer::year).thenComparing(Writer::number));
        return row;
    }

    int first(int claim) {
        return byYear().stream().filter(writer -> writer.claims.contains(claim)).map(Writer::number).findFirst().orElse(NONE);
    }

    private int errorsInCommon(Writer a, Writer b) {
        return (int) a.claims.stream().filter(b.claims::contains).filter(claim -> !truth.contains(claim)).count();
    }

    private List<Writer> line(Writer writer) {
        List<Writer> row = byYear();
        List<Writer> ahead = new ArrayList<>(row.subList(0, row.indexOf(writer)));
        ahead.removeIf(other -> errorsInCommon(writer, other) == 0);
        List<Writer> line = new ArrayList<>(List.of(writer));
        if (!ahead.isEmpty()) {
            Comparator<Writer> byErrors = Comparator.comparing(other -> errorsInCommon(writer, other));
            line.addAll(line(ahead.stream().max(byErrors.thenComparing(row::indexOf)).get()));
        }
        return line;
    }

    int story(int writer, int what) {
        if (!isIn(writer, 0, writers.size() - 1)) {
            return NONE;
        }
        Writer of = writers.get(writer);
        int right = (int) of.claims.stream().filter(truth::contains).count();
        List<Writer> line = line(of);
        return switch (what) {
            case 0 -> right;
            case 1 -> of.claims.size() - right;
            case 2 -> line.size() > 1 ? line.get(1).number : NONE;
            case 3 -> line.get(line.size() - 1).number;
            case 4 -> line.size();
            default -> NONE;
        };
    }
}
