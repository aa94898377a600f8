/** Chests that are shown empty and are not, and what was written, played and known about them. */
public final class WoodenTurk {
    public static final int NONE = -1;

    private static final int CHESTS = 3;
    private static final int SHOWS = 4;
    private static final int SIZES = 4;
    private static final int SPACES = 16;
    private static final int ALL_SPACES = 0xFFFF;
    private static final int FRONT_SPACES = 0x00FF;
    private static final int BACK_SPACES = 0xFF00;
    private static final int DOORS = 10;
    private static final int ALL_DOORS = 0x3FF;
    private static final int ROW_DOORS = 4;
    private static final int LONGEST_WAIT = 5;
    private static final int CANDLES = 3;
    private static final int MAN_SIZE = 2;

    private final Chest[] chests = new Chest[CHESTS];
    private final Show[] shows = new Show[SHOWS];
    private Show spareShow = new Show();
    private final Tape tape = new Tape();
    private final Pamphlet paper = new Pamphlet();
    private final Hiding hiding = new Hiding();
    private final Board squares = new Board();
    private final Nights nights = new Nights();
    private final Answers answers = new Answers();
    private final Writers writers = new Writers();

    public WoodenTurk() {
        for (int i = 0; i < CHESTS; i++) {
            chests[i] = new Chest();
        }
        for (int i = 0; i < SHOWS; i++) {
            shows[i] = new Show();
        }
    }

    public boolean works(int chest, int space, boolean are) {
        return isChest(chest) && chests[chest].putWorks(space, are);
    }

    public boolean wall(int chest, int s, int t, boolean is) {
        return isChest(chest) && chests[chest].putWall(s, t, is);
    }

    public boolean door(int chest, int door, int side, int spaces, boolean isFalse) {
        return isChest(chest) && chests[chest].putDoor(door, side, spaces, isFalse);
    }

    public int feed(int a, int b, int c, int d, int e) {
        if (!tape.hasRoomFor(20)) {
            return NONE;
        }
        tape.append(a);
        tape.append(b);
        tape.append(c);
        tape.append(d);
        return tape.append(e);
    }

    public boolean end(int n) {
        return tape.cutTo(n);
    }

    public int text(int k) {
        tape.forgetFault();
        int count = NONE;
        if (isShow(k)) {
            count = learnShow(k);
        } else if (k == SHOWS) {
            count = paper.learn(tape);
        }
        tape.cutTo(0);
        return count;
    }

    public int fault(int what) {
        return tape.faultOf(what);
    }

    public int poses(int chest, int size) {
        if (!isChest(chest) || !isSize(size)) {
            return NONE;
        }
        return hiding.poseCount(chests[chest], size);
    }

    public int seen(int chest, int show, int second) {
        if (!isChest(chest) || !isShow(show)) {
            return NONE;
        }
        shows[show].perform(chests[chest]);
        return shows[show].viewIn(second);
    }

    public int run(int chest, int show, int what) {
        if (!isChest(chest) || !isShow(show)) {
            return NONE;
        }
        shows[show].perform(chests[chest]);
        return shows[show].factOf(what);
    }

    public int hide(int chest, int show, int size, int what) {
        if (!isChest(chest) || !isShow(show) || !isSize(size)) {
            return NONE;
        }
        shows[show].perform(chests[chest]);
        hiding.follow(chests[chest], shows[show], size);
        return hiding.outcome(what);
    }

    public int way(int chest, int show, int size, int k) {
        if (!isChest(chest) || !isShow(show) || !isSize(size)) {
            return NONE;
        }
        shows[show].perform(chests[chest]);
        return hiding.wayPose(chests[chest], shows[show], size, k);
    }

    public int order(int chest, int doors, int wait, int size, int what) {
        if (!isChest(chest) || !isSize(size) || !isDoorSet(doors)) {
            return NONE;
        }
        if (Integer.bitCount(doors) > ROW_DOORS || wait < 1 || wait > LONGEST_WAIT) {
            return NONE;
        }
        hiding.findRow(chests[chest], doors, wait, size);
        return hiding.rowFact(what);
    }

    public int proof(int chest, int size, int refused) {
        if (!isChest(chest) || !isSize(size) || !isDoorSet(refused)) {
            return NONE;
        }
        return hiding.findProof(chests[chest], size, ALL_DOORS & ~refused);
    }

    public int reason(int k) {
        learnFacts();
        return paper.weigh(k, isManTrue());
    }

    public int pamphlet(int what) {
        boolean man = isManTrue();
        if (what == 3) {
            return man ? 1 : 0;
        }
        if (what < 0 || what > 2) {
            return NONE;
        }
        learnFacts();
        int count = 0;
        for (int k = 0; k < paper.reasonCount(); k++) {
            if (paper.weigh(k, man) == 2 - what) {
                count++;
            }
        }
        return count;
    }

    public int air(int chest, int size, int candles) {
        if (!isChest(chest) || size < 0 || size > SIZES || candles < 0 || candles > CANDLES) {
            return NONE;
        }
        return size == 0 ? chests[chest].airAtFirst() : chests[chest].airLasts(size, candles);
    }

    public boolean piece(int square, int piece) {
        return squares.putPiece(square, piece);
    }

    public boolean stick(int square, boolean is) {
        return squares.putStick(square, is);
    }

    public boolean move(int f, int t, int becomes) {
        return squares.play(f, t, becomes);
    }

    public int board(int square, int what) {
        return squares.factOf(square, what);
    }

    public int master(int size, int strength, int from, int to) {
        return isSize(size) ? nights.addMaster(strength, from, to) : NONE;
    }

    public boolean was(int master, int town, int year) {
        return nights.tellStay(master, town, year);
    }

    public boolean habit(int master, int answer, int weight) {
        return nights.putHabit(master, answer, weight);
    }

    public int night(int year, int town, int strength, int result, int answer) {
        return nights.addNight(year, town, strength, result, answer);
    }

    public int who(int night, int master, int what) {
        return nights.guessOne(night, master, what);
    }

    public int all(int a, int b, int master) {
        return nights.guessRun(a, b, master);
    }

    public int cam(int f, int t, int ownF, int ownT) {
        return answers.tell(f, t, ownF, ownT);
    }

    public int game(int f, int t) {
        return answers.play(f, t);
    }

    public int alone(int what) {
        return answers.factOf(what);
    }

    public int writer(int year, int claims) {
        return writers.add(year, claims);
    }

    public boolean truth(int claims) {
        return writers.putTruth(claims);
    }

    public int first(int claim) {
        return writers.firstWith(claim);
    }

    public int story(int writer, int what) {
        return writers.factOf(writer, what);
    }

    private static boolean isChest(int chest) {
        return chest >= 0 && chest < CHESTS;
    }

    private static boolean isShow(int show) {
        return show >= 0 && show < SHOWS;
    }

    private static boolean isSize(int size) {
        return size >= 1 && size <= SIZES;
    }

    private static boolean isDoorSet(int doors) {
        return doors >= 0 && doors <= ALL_DOORS;
    }

    private int learnShow(int k) {
        // a show with a fault leaves the old one as it was, so it is read into the spare one first
        if (!spareShow.learn(tape)) {
            return NONE;
        }
        Show old = shows[k];
        shows[k] = spareShow;
        spareShow = old;
        return shows[k].stepCount();
    }

    private boolean isManTrue() {
        shows[0].perform(chests[0]);
        hiding.follow(chests[0], shows[0], MAN_SIZE);
        return hiding.outcome(0) == 1;
    }

    private void learnFacts() {
        shows[0].perform(chests[0]);
        paper.putFacts(chests[0], shows[0]);
    }

    /** A chest: spaces with works, passages between them, and doors. */
    private static final class Chest {
        private static final int AIR_OF_A_SPACE = 60;
        private static final int LEAST_AIR = 20;
        private static final int MOST_MINUTES = 9999;

        private int worksSet = 0;
        private int shape = 0;
        private final int[] passages = new int[SPACES];
        private final int[] doorSides = new int[DOORS];
        private final int[] doorSpaces = new int[DOORS];
        private final boolean[] doorFalse = new boolean[DOORS];

        Chest() {
            for (int s = 0; s < SPACES; s++) {
                for (int t = 0; t < SPACES; t++) {
                    if (areNeighbours(s, t)) {
                        passages[s] |= 1 << t;
                    }
                }
            }
        }

        private static boolean areNeighbours(int s, int t) {
            int x = Math.abs(s % 4 - t % 4);
            int z = Math.abs(s / 4 % 2 - t / 4 % 2);
            int y = Math.abs(s / 8 - t / 8);
            return x + y + z == 1;
        }

        private static boolean isSpace(int space) {
            return space >= 0 && space < SPACES;
        }

        boolean putWorks(int space, boolean are) {
            if (!isSpace(space)) {
                return false;
            }
            worksSet = are ? worksSet | 1 << space : worksSet & ~(1 << space);
            shape++;
            return true;
        }

        boolean putWall(int s, int t, boolean is) {
            if (!isSpace(s) || !isSpace(t) || !areNeighbours(s, t)) {
                return false;
            }
            passages[s] = is ? passages[s] & ~(1 << t) : passages[s] | 1 << t;
            passages[t] = is ? passages[t] & ~(1 << s) : passages[t] | 1 << s;
            shape++;
            return true;
        }

        boolean putDoor(int door, int side, int spaces, boolean isFalse) {
            if (door < 0 || door >= DOORS || side < 0 || side > 1) {
                return false;
            }
            int ofTheSide = side == 0 ? FRONT_SPACES : BACK_SPACES;
            if ((spaces & ~ofTheSide) != 0) {
                return false;
            }
            doorSides[door] = side;
            doorSpaces[door] = spaces;
            doorFalse[door] = isFalse;
            return true;
        }

        /** Another number whenever works or walls were put: what was found out about poses is stale then. */
        int shapeNumber() {
            return shape;
        }

        int worksNow() {
            return worksSet;
        }

        int freeSpaces() {
            return ALL_SPACES & ~worksSet;
        }

        int sideOf(int door) {
            return door >= 0 && door < DOORS ? doorSides[door] : NONE;
        }

        /** What an open door shows to those who watch its side. */
        int shownBy(int door, boolean lit) {
            if (door < 0 || door >= DOORS) {
                return 0;
            }
            int spaces = doorSpaces[door];
            if (!lit || doorFalse[door]) {
                return spaces;
            }
            int through = spaces & ~worksSet;
            return (spaces | through << 8 | through >>> 8) & ALL_SPACES;
        }

        /** The spaces that have a passage to one of a set. */
        int nextTo(int set) {
            int found = 0;
            for (int s = 0; s < SPACES; s++) {
                if ((set >>> s & 1) != 0) {
                    found |= passages[s];
                }
            }
            return found;
        }

        /** Whether a set of at most four spaces hangs together. */
        boolean hangsTogether(int set) {
            int reached = Integer.lowestOneBit(set);
            for (int i = 1; i < SIZES; i++) {
                reached |= nextTo(reached) & set;
            }
            return reached == set;
        }

        int airAtFirst() {
            return AIR_OF_A_SPACE * Integer.bitCount(freeSpaces());
        }

        int airLasts(int size, int candles) {
            int spare = airAtFirst() - LEAST_AIR;
            if (spare < 0) {
                return 0;
            }
            int loss = 2 * size + 5 * candles - airInAMinute();
            return loss <= 0 ? MOST_MINUTES : Math.min(MOST_MINUTES, spare / loss);
        }

        private int airInAMinute() {
            int doors = 0;
            for (int i = 0; i < DOORS; i++) {
                if (doorSpaces[i] != 0 && !doorFalse[i]) {
                    doors++;
                }
            }
            return doors;
        }
    }

    /** The tape, its tokens while a text is read from it, and the fault of the latest text. */
    private static final class Tape {
        static final int MOST_BYTES = 600;
        static final int MOST_TOKENS = MOST_BYTES + 1;
        static final int CANNOT_STAND = 1;
        static final int BAD_NUMBER = 2;
        static final int TOO_MANY = 3;
        /** A token's code: a number is its own, then come the words by their place in their list, then the signs. */
        static final int WORD = 10000;
        static final int SIGN = 20000;
        static final int NO_TOKEN = -1;
        static final int END = -2;
        private static final int MOST_DIGITS = 4;

        private final byte[] bytes = new byte[MOST_BYTES];
        private int length = 0;
        private final int[] codes = new int[MOST_TOKENS];
        private final int[] places = new int[MOST_TOKENS];
        private int tokens = 0;
        private int at = 0;
        private int fault = 0;
        private int faultPlace = NONE;

        boolean hasRoomFor(int more) {
            return length + more <= MOST_BYTES;
        }

        int append(int number) {
            for (int shift = 24; shift >= 0; shift -= 8) {
                if (length < MOST_BYTES) {
                    bytes[length] = (byte) (number >>> shift);
                    length++;
                }
            }
            return length;
        }

        boolean cutTo(int n) {
            if (n < 0 || n > length) {
                return false;
            }
            length = n;
            return true;
        }

        void forgetFault() {
            fault = 0;
            faultPlace = NONE;
        }

        int faultOf(int what) {
            return what == 0 ? fault : what == 1 ? faultPlace : NONE;
        }

        /** Takes the tape apart; words is a list of keywords with one blank between each two. */
        void readTokens(String words, String signs) {
            tokens = 0;
            at = 0;
            int behind = 0;
            for (int place = 0; place < length; place++) {
                if (place >= behind) {
                    behind = readToken(place, words, signs);
                }
            }
            addToken(END, length);
        }

        private int readToken(int place, String words, String signs) {
            int sign = signAt(place);
            if (sign == ' ' || sign == '\n') {
                return place + 1;
            }
            int behind = place + 1;
            if (isLetter(sign)) {
                behind = letterEnd(place);
                addToken(wordCode(words, place, behind), place);
            } else if (isDigit(sign)) {
                behind = digitEnd(place);
                addToken(numberCode(place, behind), place);
            } else {
                addToken(signs.indexOf((char) sign) >= 0 ? SIGN + sign : NO_TOKEN, place);
            }
            return behind;
        }

        private int signAt(int place) {
            return place >= 0 && place < length ? bytes[place] & 255 : 0;
        }

        private static boolean isLetter(int sign) {
            return sign >= 'a' && sign <= 'z' || sign >= 'A' && sign <= 'Z';
        }

        private static boolean isDigit(int sign) {
            return sign >= '0' && sign <= '9';
        }

        private int letterEnd(int place) {
            for (int end = place; end < length; end++) {
                if (!isLetter(signAt(end))) {
                    return end;
                }
            }
            return length;
        }

        private int digitEnd(int place) {
            for (int end = place; end < length; end++) {
                if (!isDigit(signAt(end))) {
                    return end;
                }
            }
            return length;
        }

        private int numberCode(int from, int to) {
            if (to - from > MOST_DIGITS) {
                return NO_TOKEN;
            }
            int number = 0;
            for (int i = from; i < to; i++) {
                number = 10 * number + signAt(i) - '0';
            }
            return number;
        }

        private int wordCode(String words, int from, int to) {
            int word = 0;
            int start = 0;
            for (int i = 0; i <= words.length(); i++) {
                if (i == words.length() || words.charAt(i) == ' ') {
                    if (i - start == to - from && isSame(words, start, i, from)) {
                        return WORD + word;
                    }
                    word++;
                    start = i + 1;
                }
            }
            return NO_TOKEN;
        }

        private boolean isSame(String words, int start, int end, int place) {
            for (int i = start; i < end && i < words.length(); i++) {
                int j = place + i - start;
                if (j < 0 || j >= length || words.charAt(i) != bytes[j]) {
                    return false;
                }
            }
            return true;
        }

        private void addToken(int code, int place) {
            if (tokens < MOST_TOKENS) {
                codes[tokens] = code;
                places[tokens] = place;
                tokens++;
            }
        }

        int code() {
            return at >= 0 && at < tokens ? codes[at] : END;
        }

        int tokenNumber() {
            return at;
        }

        void copyCodes(int[] to) {
            System.arraycopy(codes, 0, to, 0, Math.min(tokens, to.length));
        }

        /** The number of the word here in its list, or NONE. */
        int word() {
            int code = code();
            return code >= WORD && code < SIGN ? code - WORD : NONE;
        }

        void next() {
            at++;
        }

        boolean takes(int code) {
            if (code() != code) {
                return false;
            }
            next();
            return true;
        }

        boolean needs(int code) {
            return takes(code) || fail(CANNOT_STAND);
        }

        boolean needsNumber(int least, int most) {
            int number = code();
            if (number < 0 || number >= WORD) {
                return fail(CANNOT_STAND);
            }
            if (number < least || number > most) {
                return fail(BAD_NUMBER);
            }
            next();
            return true;
        }

        boolean fail(int what) {
            fault = what;
            faultPlace = at >= 0 && at < tokens ? places[at] : length;
            return false;
        }
    }

    /** A show: its steps, and what its latest performance with a chest shows. */
    private static final class Show {
        private static final String WORDS = "open shut wait candle dark turn";
        private static final int OPEN = 0;
        private static final int SHUT = 1;
        private static final int WAIT = 2;
        private static final int CANDLE = 3;
        private static final int DARK = 4;
        private static final int TURN = 5;
        static final int MOST_STEPS = 40;
        static final int MOST_WAIT = 20;

        private final int[] kinds = new int[MOST_STEPS];
        private final int[] numbers = new int[MOST_STEPS];
        private int steps = 0;

        private final int[] views = new int[MOST_STEPS];
        private int openDoors = 0;
        private int candleDoor = NONE;
        private int side = 0;
        private int allSeen = 0;
        private int mostOpen = 0;
        private int turns = 0;

        boolean learn(Tape tape) {
            steps = 0;
            tape.readTokens(WORDS, ";");
            for (int i = 0; i <= MOST_STEPS; i++) {
                if (tape.code() == Tape.END) {
                    return true;
                }
                if (!learnStep(tape)) {
                    return false;
                }
            }
            return false;
        }

        private boolean learnStep(Tape tape) {
            int kind = tape.word();
            if (kind == NONE) {
                return tape.fail(Tape.CANNOT_STAND);
            }
            if (steps >= MOST_STEPS) {
                return tape.fail(Tape.TOO_MANY);
            }
            tape.next();
            int number = tape.code();
            if (kind == WAIT && !tape.needsNumber(1, MOST_WAIT)) {
                return false;
            }
            if (isOfADoor(kind) && !tape.needsNumber(0, DOORS - 1)) {
                return false;
            }
            kinds[steps] = kind;
            numbers[steps] = number;
            steps++;
            return tape.needs(Tape.SIGN + ';');
        }

        private static boolean isOfADoor(int kind) {
            return kind == OPEN || kind == SHUT || kind == CANDLE;
        }

        int stepCount() {
            return steps;
        }

        void perform(Chest chest) {
            openDoors = 0;
            candleDoor = NONE;
            side = 0;
            allSeen = 0;
            mostOpen = 0;
            turns = 0;
            for (int i = 0; i < steps && i < MOST_STEPS; i++) {
                takeStep(kinds[i], numbers[i]);
                mostOpen = Math.max(mostOpen, Integer.bitCount(openDoors));
                views[i] = viewNow(chest);
                allSeen |= views[i];
            }
        }

        private void takeStep(int kind, int number) {
            switch (kind) {
                case OPEN:
                    openDoors |= 1 << number;
                    break;
                case SHUT:
                    openDoors &= ~(1 << number);
                    break;
                case CANDLE:
                    candleDoor = number;
                    break;
                case DARK:
                    candleDoor = NONE;
                    break;
                case TURN:
                    side = 1 - side;
                    turns++;
                    break;
                default:
                    break;
            }
        }

        private int viewNow(Chest chest) {
            int view = 0;
            for (int door = 0; door < DOORS; door++) {
                if ((openDoors >>> door & 1) != 0 && chest.sideOf(door) == side) {
                    view |= chest.shownBy(door, door == candleDoor);
                }
            }
            return view;
        }

        int secondsOf(int step) {
            if (step < 0 || step >= steps || step >= MOST_STEPS) {
                return 0;
            }
            return kinds[step] == WAIT ? numbers[step] : 1;
        }

        int viewOf(int step) {
            return step >= 0 && step < steps && step < MOST_STEPS ? views[step] : 0;
        }

        int allSeconds() {
            int seconds = 0;
            for (int i = 0; i < steps; i++) {
                seconds += secondsOf(i);
            }
            return seconds;
        }

        int viewIn(int second) {
            if (second < 0) {
                return NONE;
            }
            int behind = 0;
            for (int i = 0; i < steps; i++) {
                behind += secondsOf(i);
                if (second < behind) {
                    return viewOf(i);
                }
            }
            return NONE;
        }

        int factOf(int what) {
            switch (what) {
                case 0:
                    return allSeconds();
                case 1:
                    return allSeen;
                case 2:
                    return mostOpen;
                case 3:
                    return turns;
                default:
                    return NONE;
            }
        }
    }

    /** The poses of a size in a chest, by number, and the moves between them. Sets of poses are rows of three longs. */
    private static final class Poses {
        /** So many has a chest without works and walls for size 4; all else has fewer. */
        static final int MOST_POSES = 180;
        static final int LONGS = 3;
        /** Four of sixteen spaces can be chosen in so many ways. */
        private static final int MOST_SETS = 1820;

        private Chest chest = null;
        private int size = 0;
        private int shape = 0;
        private int count = 0;
        private final int[] sets = new int[MOST_POSES];
        /** For each pose the set of those in which he can be a second later, the same one too. */
        private final long[] moves = new long[MOST_POSES * LONGS];

        void findFor(Chest newChest, int newSize) {
            if (chest == newChest && size == newSize && shape == newChest.shapeNumber()) {
                return;
            }
            chest = newChest;
            size = newSize;
            shape = newChest.shapeNumber();
            findSets(newChest);
            findMoves(newChest);
        }

        private void findSets(Chest ofChest) {
            count = 0;
            int free = ofChest.freeSpaces();
            int set = (1 << size) - 1;
            for (int i = 0; i < MOST_SETS && set <= ALL_SPACES; i++) {
                if ((set & ~free) == 0 && ofChest.hangsTogether(set) && count < MOST_POSES) {
                    sets[count] = set;
                    count++;
                }
                set = nextOfAsMany(set);
            }
        }

        /** The next greater number with as many ones. */
        private static int nextOfAsMany(int set) {
            int low = Integer.lowestOneBit(set);
            int carried = set + low;
            return carried | (set ^ carried) >>> 2 + Integer.numberOfTrailingZeros(set);
        }

        private void findMoves(Chest ofChest) {
            for (int i = 0; i < moves.length; i++) {
                moves[i] = 0;
            }
            for (int i = 0; i < count && i < MOST_POSES; i++) {
                int reach = ofChest.nextTo(sets[i]);
                for (int j = 0; j < count && j < MOST_POSES; j++) {
                    if (i == j || isMove(sets[i], sets[j], reach)) {
                        moves[i * LONGS + j / 64] |= 1L << j % 64;
                    }
                }
            }
        }

        private static boolean isMove(int from, int to, int reach) {
            int fresh = to & ~from;
            return Integer.bitCount(fresh) == 1 && (fresh & reach) != 0;
        }

        int howMany() {
            return count;
        }

        int setOf(int pose) {
            return pose >= 0 && pose < count && pose < MOST_POSES ? sets[pose] : NONE;
        }

        /** Where he can be after a second, if he was in one of the poses from and nobody looks. */
        void spread(long[] from, long[] to) {
            long a = 0;
            long b = 0;
            long c = 0;
            for (int part = 0; part < LONGS && part < from.length; part++) {
                long rest = from[part];
                for (int i = 0; i < 64 && rest != 0; i++) {
                    int row = LONGS * (64 * part + Long.numberOfTrailingZeros(rest));
                    rest &= rest - 1;
                    if (row >= 0 && row + 2 < moves.length) {
                        a |= moves[row];
                        b |= moves[row + 1];
                        c |= moves[row + 2];
                    }
                }
            }
            putRow(to, a, b, c);
        }

        void spreadOne(int pose, long[] to) {
            int row = pose * LONGS;
            if (pose < 0 || row + 2 >= moves.length) {
                putRow(to, 0, 0, 0);
                return;
            }
            putRow(to, moves[row], moves[row + 1], moves[row + 2]);
        }

        /** The poses of which no space is seen. */
        void findUnseen(int view, long[] to) {
            putRow(to, 0, 0, 0);
            for (int pose = 0; pose < count && pose < MOST_POSES; pose++) {
                int part = pose / 64;
                if ((sets[pose] & view) == 0 && part < to.length) {
                    to[part] |= 1L << pose % 64;
                }
            }
        }

        /** Whether each pose has a space of a view. */
        boolean areAllSeen(int view) {
            for (int pose = 0; pose < count && pose < MOST_POSES; pose++) {
                if ((sets[pose] & view) == 0) {
                    return false;
                }
            }
            return true;
        }

        private static void putRow(long[] to, long a, long b, long c) {
            if (to.length >= LONGS) {
                to[0] = a;
                to[1] = b;
                to[2] = c;
            }
        }
    }

    /** Hiding: in a show, in the best order of doors, and against the fewest doors. */
    private static final class Hiding {
        private static final int LONGS = Poses.LONGS;
        private static final int MOST_SECONDS = Show.MOST_STEPS * Show.MOST_WAIT;

        private final Poses poses = new Poses();
        private final long[] now = new long[LONGS];
        private final long[] later = new long[LONGS];
        private final long[] unseen = new long[LONGS];
        private int failSecond = NONE;
        private int endPoses = 0;
        /** For each second of a show the poses in which he is unseen in it and can stay so to the end. */
        private final long[] good = new long[MOST_SECONDS * LONGS];

        private int doorSet = 0;
        private int waitSeconds = 0;
        /** What each door shows to those in front when it is open and its candle burns. */
        private final int[] frontViews = new int[DOORS];
        private final int[] row = new int[ROW_DOORS];
        /** The poses ahead of the first door of the row, behind it, behind the second and so on. */
        private final long[][] behind = new long[ROW_DOORS + 1][LONGS];
        private final int[] bestRow = new int[ROW_DOORS];
        private int bestCount = NONE;
        private int bestSeen = 0;
        private final int[] doorViews = new int[ALL_DOORS + 1];

        int poseCount(Chest ofChest, int size) {
            poses.findFor(ofChest, size);
            return poses.howMany();
        }

        void follow(Chest ofChest, Show show, int size) {
            poses.findFor(ofChest, size);
            poses.findUnseen(0, now);
            // without a pose he is nowhere ahead of the first second, be there such a second or not
            failSecond = isEmpty(now) ? 0 : NONE;
            int second = 0;
            for (int step = 0; step < show.stepCount() && failSecond == NONE; step++) {
                poses.findUnseen(show.viewOf(step), unseen);
                int well = stayUnseen(show.secondsOf(step));
                second += well;
                failSecond = well < show.secondsOf(step) ? second : NONE;
            }
            endPoses = howMany(now);
        }

        /** Lets seconds pass in which the same poses are unseen; tells how many went well. */
        private int stayUnseen(int seconds) {
            for (int i = 0; i < seconds; i++) {
                poses.spread(now, later);
                keepCommon(later, unseen, later);
                if (isSame(now, later)) {
                    // from here on each second is as this one
                    return isEmpty(now) ? i : seconds;
                }
                keepCommon(later, unseen, now);
                if (isEmpty(now)) {
                    return i;
                }
            }
            return seconds;
        }

        int outcome(int what) {
            switch (what) {
                case 0:
                    return endPoses > 0 ? 1 : 0;
                case 1:
                    return failSecond;
                case 2:
                    return endPoses;
                default:
                    return NONE;
            }
        }

        int wayPose(Chest ofChest, Show show, int size, int k) {
            if (k < 0 || k > show.allSeconds()) {
                return NONE;
            }
            poses.findFor(ofChest, size);
            findGood(show);
            int pose = least(now);
            for (int second = 0; second < k && second < MOST_SECONDS && pose != NONE; second++) {
                poses.spreadOne(pose, later);
                readGood(second, unseen);
                keepCommon(later, unseen, now);
                pose = least(now);
            }
            return poses.setOf(pose);
        }

        /** Fills good from the last second to the first, and now with the poses from which all goes well. */
        private void findGood(Show show) {
            poses.findUnseen(0, now);
            int second = show.allSeconds();
            for (int step = show.stepCount() - 1; step >= 0; step--) {
                poses.findUnseen(show.viewOf(step), unseen);
                for (int i = show.secondsOf(step); i > 0; i--) {
                    second--;
                    keepCommon(now, unseen, later);
                    writeGood(second, later);
                    // each move can be made backwards too
                    poses.spread(later, now);
                }
            }
        }

        private void writeGood(int second, long[] from) {
            for (int i = 0; i < LONGS && i < from.length; i++) {
                int place = second * LONGS + i;
                if (place >= 0 && place < good.length) {
                    good[place] = from[i];
                }
            }
        }

        private void readGood(int second, long[] to) {
            for (int i = 0; i < LONGS && i < to.length; i++) {
                int place = second * LONGS + i;
                to[i] = place >= 0 && place < good.length ? good[place] : 0;
            }
        }

        void findRow(Chest ofChest, int doors, int wait, int size) {
            poses.findFor(ofChest, size);
            for (int door = 0; door < DOORS; door++) {
                frontViews[door] = ofChest.sideOf(door) == 0 ? ofChest.shownBy(door, true) : 0;
            }
            doorSet = doors;
            waitSeconds = wait;
            bestCount = NONE;
            bestSeen = 0;
            poses.findUnseen(0, behind[0]);
            if (!isEmpty(behind[0])) {
                tryRows(0, 0, 0);
            }
        }

        int rowFact(int what) {
            if (bestCount == NONE || what < 0) {
                return NONE;
            }
            if (what < 2) {
                return what == 0 ? Integer.bitCount(bestSeen) : bestCount;
            }
            int k = what - 2;
            return k < bestCount && k < ROW_DOORS ? bestRow[k] : NONE;
        }

        /** Rows come by numbers, so a later one must be better to be taken. */
        private void tryRows(int count, int used, int seenSoFar) {
            keepIfBetter(count, seenSoFar);
            for (int door = 0; door < DOORS; door++) {
                if (((doorSet & ~used) >>> door & 1) != 0) {
                    tryDoor(door, count, used, seenSoFar);
                }
            }
        }

        private void tryDoor(int door, int count, int used, int seenSoFar) {
            if (door < 0 || door >= DOORS || count < 0 || count >= ROW_DOORS) {
                return;
            }
            row[count] = door;
            int view = frontViews[door];
            if (passesDoor(view, behind[count], behind[count + 1])) {
                tryRows(count + 1, used | 1 << door, seenSoFar | view);
            }
        }

        private void keepIfBetter(int count, int seenSoFar) {
            int more = Integer.bitCount(seenSoFar) - Integer.bitCount(bestSeen);
            if (bestCount == NONE || more > 0 || more == 0 && count < bestCount) {
                bestCount = count;
                bestSeen = seenSoFar;
                System.arraycopy(row, 0, bestRow, 0, ROW_DOORS);
            }
        }

        private boolean passesDoor(int view, long[] from, long[] to) {
            poses.findUnseen(view, unseen);
            // while the candle is put nothing is open
            poses.spread(from, now);
            if (stayUnseen(1 + waitSeconds) < 1 + waitSeconds) {
                return false;
            }
            poses.spread(now, to);
            return true;
        }

        int findProof(Chest ofChest, int size, int allowed) {
            poses.findFor(ofChest, size);
            int best = NONE;
            int fewest = DOORS + 1;
            doorViews[0] = 0;
            for (int set = 0; set <= ALL_DOORS; set++) {
                int door = Integer.numberOfTrailingZeros(set);
                doorViews[set] = doorViews[set & set - 1] | ofChest.shownBy(door, true);
                int count = Integer.bitCount(set);
                if ((set & ~allowed) == 0 && count < fewest && poses.areAllSeen(doorViews[set])) {
                    best = set;
                    fewest = count;
                }
            }
            return best;
        }

        private static void keepCommon(long[] a, long[] b, long[] to) {
            for (int i = 0; i < LONGS && i < to.length; i++) {
                to[i] = i < a.length && i < b.length ? a[i] & b[i] : 0;
            }
        }

        private static boolean isSame(long[] a, long[] b) {
            for (int i = 0; i < a.length && i < b.length; i++) {
                if (a[i] != b[i]) {
                    return false;
                }
            }
            return true;
        }

        private static boolean isEmpty(long[] set) {
            return howMany(set) == 0;
        }

        private static int howMany(long[] set) {
            int count = 0;
            for (long part : set) {
                count += Long.bitCount(part);
            }
            return count;
        }

        private static int least(long[] set) {
            for (int i = 0; i < set.length; i++) {
                if (set[i] != 0) {
                    return i * 64 + Long.numberOfTrailingZeros(set[i]);
                }
            }
            return NONE;
        }
    }

    /** The pamphlet: its tokens as they were read, and the facts of the show that it speaks about. */
    private static final class Pamphlet {
        private static final String WORDS = "man none when or and no seen works doors secs turns air gap";
        private static final String SIGNS = "+-*/()<=>;";
        private static final int MAN = Tape.WORD;
        private static final int NOBODY = Tape.WORD + 1;
        private static final int WHEN = Tape.WORD + 2;
        private static final int OR = Tape.WORD + 3;
        private static final int AND = Tape.WORD + 4;
        private static final int NO = Tape.WORD + 5;
        private static final int SEEN = Tape.WORD + 6;
        private static final int WORKS = Tape.WORD + 7;
        private static final int PLUS = Tape.SIGN + '+';
        private static final int MINUS = Tape.SIGN + '-';
        private static final int TIMES = Tape.SIGN + '*';
        private static final int DIVIDED = Tape.SIGN + '/';
        private static final int WORD_COUNT = 13;
        private static final int DOORS_WORD = 8;
        private static final int SECS_WORD = 9;
        private static final int TURNS_WORD = 10;
        private static final int AIR_WORD = 11;
        private static final int GAP_WORD = 12;
        private static final int MOST_REASONS = 20;
        private static final int MOST_OPEN = 8;

        private final int[] codes = new int[Tape.MOST_TOKENS];
        private final int[] starts = new int[MOST_REASONS];
        private final int[] newStarts = new int[MOST_REASONS];
        private int reasons = 0;
        private int at = 0;
        private int seenSet = 0;
        private int worksSet = 0;
        private final int[] facts = new int[WORD_COUNT];
        private final Sum term = new Sum();
        private final Sum left = new Sum();
        private final Sum right = new Sum();

        /** How many reasons the tape holds, which are the pamphlet then, or NONE. */
        int learn(Tape tape) {
            tape.readTokens(WORDS, SIGNS);
            for (int count = 0; count <= MOST_REASONS; count++) {
                if (tape.code() == Tape.END) {
                    keep(tape, count);
                    return count;
                }
                if (!checkReason(tape, count)) {
                    return NONE;
                }
            }
            return NONE;
        }

        private void keep(Tape tape, int count) {
            tape.copyCodes(codes);
            System.arraycopy(newStarts, 0, starts, 0, MOST_REASONS);
            reasons = count;
        }

        private boolean checkReason(Tape tape, int count) {
            int says = tape.code();
            if (says != MAN && says != NOBODY) {
                return tape.fail(Tape.CANNOT_STAND);
            }
            if (count < 0 || count >= MOST_REASONS) {
                return tape.fail(Tape.TOO_MANY);
            }
            newStarts[count] = tape.tokenNumber();
            tape.next();
            return tape.needs(WHEN) && checkChoice(tape, 0) && tape.needs(Tape.SIGN + ';');
        }

        private static boolean checkChoice(Tape tape, int open) {
            boolean fine = checkCondition(tape, open);
            for (int i = 0; i < Tape.MOST_TOKENS && fine && (tape.takes(OR) || tape.takes(AND)); i++) {
                fine = checkCondition(tape, open);
            }
            return fine;
        }

        private static boolean checkCondition(Tape tape, int open) {
            int code = tape.code();
            if (code != NO && code != Tape.SIGN + '(') {
                return checkSum(tape) && checkComparison(tape) && checkSum(tape);
            }
            if (open >= MOST_OPEN) {
                return tape.fail(Tape.TOO_MANY);
            }
            tape.next();
            if (code == NO) {
                return checkCondition(tape, open + 1);
            }
            return checkChoice(tape, open + 1) && tape.needs(Tape.SIGN + ')');
        }

        private static boolean checkComparison(Tape tape) {
            return tape.takes(Tape.SIGN + '<') || tape.takes(Tape.SIGN + '=') || tape.needs(Tape.SIGN + '>');
        }

        private static boolean checkSum(Tape tape) {
            boolean fine = checkUnit(tape);
            boolean more = true;
            for (int i = 0; i < Tape.MOST_TOKENS && fine && more; i++) {
                if (tape.takes(DIVIDED)) {
                    fine = tape.needsNumber(1, Tape.WORD - 1);
                } else if (tape.takes(TIMES) || tape.takes(PLUS) || tape.takes(MINUS)) {
                    fine = checkUnit(tape);
                } else {
                    more = false;
                }
            }
            return fine;
        }

        private static boolean checkUnit(Tape tape) {
            if (tape.takes(SEEN) || tape.takes(WORKS)) {
                return tape.needsNumber(0, SPACES - 1);
            }
            if (tape.word() >= DOORS_WORD) {
                tape.next();
                return true;
            }
            return tape.needsNumber(0, Tape.WORD - 1);
        }

        /** Takes what the pamphlet speaks about from a chest and a show that was performed with it. */
        void putFacts(Chest chest, Show show) {
            seenSet = show.factOf(1);
            worksSet = chest.worksNow();
            facts[DOORS_WORD] = show.factOf(2);
            facts[SECS_WORD] = show.factOf(0);
            facts[TURNS_WORD] = show.factOf(3);
            facts[AIR_WORD] = chest.airAtFirst();
            facts[GAP_WORD] = Integer.bitCount(chest.freeSpaces() & ~seenSet);
        }

        int reasonCount() {
            return reasons;
        }

        int weigh(int k, boolean man) {
            if (k < 0 || k >= reasons || k >= MOST_REASONS) {
                return NONE;
            }
            at = starts[k];
            boolean saysMan = code() == MAN;
            at += 2;
            if (!choiceHolds(0)) {
                return 0;
            }
            return saysMan == man ? 2 : 1;
        }

        private int code() {
            return at >= 0 && at < codes.length ? codes[at] : Tape.END;
        }

        private boolean takes(int code) {
            if (code() != code) {
                return false;
            }
            at++;
            return true;
        }

        private boolean choiceHolds(int open) {
            boolean before = false;
            boolean part = conditionHolds(open);
            for (int i = 0; i < Tape.MOST_TOKENS; i++) {
                if (takes(AND)) {
                    part &= conditionHolds(open);
                } else if (takes(OR)) {
                    before |= part;
                    part = conditionHolds(open);
                } else {
                    break;
                }
            }
            return before || part;
        }

        private boolean conditionHolds(int open) {
            if (open > MOST_OPEN) {
                return false;
            }
            if (takes(NO)) {
                return !conditionHolds(open + 1);
            }
            if (takes(Tape.SIGN + '(')) {
                boolean so = choiceHolds(open + 1);
                takes(Tape.SIGN + ')');
                return so;
            }
            return comparisonHolds();
        }

        private boolean comparisonHolds() {
            left.put(0);
            right.put(0);
            addUp(left, right);
            int sign = code() - Tape.SIGN;
            at++;
            // what is taken away on one side is put to the other, so that no number is below 0
            addUp(right, left);
            int order = left.against(right);
            return sign == '<' ? order < 0 : sign == '>' ? order > 0 : order == 0;
        }

        private void addUp(Sum own, Sum other) {
            Sum to = own;
            term.put(takeUnit());
            for (int i = 0; i < Tape.MOST_TOKENS; i++) {
                if (takes(TIMES)) {
                    term.multiplyBy(takeUnit());
                } else if (takes(DIVIDED)) {
                    term.divideBy(takeUnit());
                } else {
                    to.add(term);
                    to = code() == PLUS ? own : other;
                    if (!takes(PLUS) && !takes(MINUS)) {
                        return;
                    }
                    term.put(takeUnit());
                }
            }
        }

        private int takeUnit() {
            int code = code();
            at++;
            if (code >= 0 && code < Tape.WORD) {
                return code;
            }
            if (code == SEEN || code == WORKS) {
                int space = code();
                at++;
                int set = code == SEEN ? seenSet : worksSet;
                return space >= 0 && space < SPACES ? set >>> space & 1 : 0;
            }
            int word = code - Tape.WORD;
            return word >= 0 && word < WORD_COUNT ? facts[word] : 0;
        }
    }

    /** A number of any length, 0 at least: the document bounds no product, and long would wrap. */
    private static final class Sum {
        private static final int BASE = 10000;
        /** Six hundred bytes can't tell a number of so many digits times four. */
        private static final int MOST_PARTS = 160;

        private final int[] parts = new int[MOST_PARTS];
        private int used = 0;

        void put(int number) {
            used = 0;
            append(number);
        }

        private void append(int part) {
            if (part > 0 && used < MOST_PARTS) {
                parts[used] = part;
                used++;
            }
        }

        void multiplyBy(int number) {
            int carry = 0;
            for (int i = 0; i < used && i < MOST_PARTS; i++) {
                int product = parts[i] * number + carry;
                parts[i] = product % BASE;
                carry = product / BASE;
            }
            append(carry);
            dropEmptyParts();
        }

        void divideBy(int number) {
            if (number <= 0) {
                return;
            }
            int rest = 0;
            for (int i = Math.min(used, MOST_PARTS) - 1; i >= 0; i--) {
                int part = rest * BASE + parts[i];
                parts[i] = part / number;
                rest = part % number;
            }
            dropEmptyParts();
        }

        private void dropEmptyParts() {
            for (int i = Math.min(used, MOST_PARTS) - 1; i >= 0 && parts[i] == 0; i--) {
                used = i;
            }
        }

        void add(Sum other) {
            int length = Math.max(used, other.used);
            int carry = 0;
            for (int i = 0; i < length && i < MOST_PARTS; i++) {
                int sum = partAt(i) + other.partAt(i) + carry;
                parts[i] = sum % BASE;
                carry = sum / BASE;
            }
            used = Math.min(length, MOST_PARTS);
            append(carry);
        }

        private int partAt(int i) {
            return i >= 0 && i < used && i < MOST_PARTS ? parts[i] : 0;
        }

        /** Below 0, 0 or above 0, as this is less than, as much as or more than the other. */
        int against(Sum other) {
            for (int i = MOST_PARTS - 1; i >= 0; i--) {
                if (partAt(i) != other.partAt(i)) {
                    return partAt(i) - other.partAt(i);
                }
            }
            return 0;
        }
    }

    /** The true board, and what he who sits below knows of it. */
    private static final class Board {
        static final int SQUARES = 64;
        private static final int MOST_PIECE = 12;
        private static final int UNLIKE_ALL = 13;

        private final int[] pieces = new int[SQUARES];
        private final int[] known = new int[SQUARES];
        private final boolean[] sticks = new boolean[SQUARES];

        static boolean isSquare(int square) {
            return square >= 0 && square < SQUARES;
        }

        static boolean isMove(int f, int t) {
            return isSquare(f) && isSquare(t) && f != t;
        }

        boolean putPiece(int square, int piece) {
            if (!isSquare(square) || piece < 0 || piece > MOST_PIECE) {
                return false;
            }
            pieces[square] = piece;
            known[square] = piece;
            return true;
        }

        boolean putStick(int square, boolean is) {
            if (!isSquare(square)) {
                return false;
            }
            sticks[square] = is;
            return true;
        }

        boolean play(int f, int t, int becomes) {
            if (!isMove(f, t) || pieces[f] == 0 || becomes < NONE || becomes == 0 || becomes > MOST_PIECE) {
                return false;
            }
            pieces[t] = becomes == NONE ? pieces[f] : becomes;
            pieces[f] = 0;
            int knew = known[f];
            if (!sticks[f]) {
                known[f] = 0;
            }
            if (!sticks[t]) {
                known[t] = !sticks[f] && knew != 0 ? knew : UNLIKE_ALL;
            }
            return true;
        }

        int factOf(int square, int what) {
            if (what == 2) {
                return countWrong();
            }
            if (what == 3) {
                return countOpen();
            }
            if (what < 0 || what > 1 || !isSquare(square)) {
                return NONE;
            }
            return what == 0 ? pieces[square] : known[square];
        }

        private int countWrong() {
            int count = 0;
            for (int i = 0; i < SQUARES; i++) {
                if (known[i] != UNLIKE_ALL && known[i] != pieces[i]) {
                    count++;
                }
            }
            return count;
        }

        private int countOpen() {
            int count = 0;
            for (int i = 0; i < SQUARES; i++) {
                if (known[i] == UNLIKE_ALL) {
                    count++;
                }
            }
            return count;
        }
    }

    /** The masters, where they were, their habits, and the nights on which one of them may have been inside. */
    private static final class Nights {
        private static final int MOST_MASTERS = 12;
        private static final int MOST_NIGHTS = 60;
        private static final int MOST_STAYS = 200;
        private static final int YEARS = 100;
        private static final int TOWNS = 10;
        private static final int ANSWER_KINDS = 3;
        private static final int MOST_HABIT = 9;
        private static final int MOST_STRENGTH = 99;
        private static final int DRAWN = 1;
        private static final int WON = 2;
        private static final long MOST_WEIGHT = 1000000000L;

        private int masters = 0;
        private final int[] strengths = new int[MOST_MASTERS];
        private final int[] from = new int[MOST_MASTERS];
        private final int[] to = new int[MOST_MASTERS];
        private final int[] habits = new int[MOST_MASTERS * ANSWER_KINDS];
        /** For each master and year the set of towns. */
        private final int[] stays = new int[MOST_MASTERS * YEARS];
        private int stayCount = 0;

        private int nights = 0;
        private final int[] nightYears = new int[MOST_NIGHTS];
        private final int[] nightTowns = new int[MOST_NIGHTS];
        private final int[] opponents = new int[MOST_NIGHTS];
        private final int[] results = new int[MOST_NIGHTS];
        private final int[] cheatAnswers = new int[MOST_NIGHTS];
        private final long[] weights = new long[MOST_MASTERS];

        Nights() {
            for (int i = 0; i < habits.length; i++) {
                habits[i] = 1;
            }
        }

        private static boolean isYear(int year) {
            return year >= 0 && year < YEARS;
        }

        private static boolean isTown(int town) {
            return town >= 0 && town < TOWNS;
        }

        private static boolean isStrength(int strength) {
            return strength >= 0 && strength <= MOST_STRENGTH;
        }

        private static boolean isAnswer(int answer) {
            return answer >= 0 && answer < ANSWER_KINDS;
        }

        private boolean isMaster(int master) {
            return master >= 0 && master < masters && master < MOST_MASTERS;
        }

        private boolean isNight(int night) {
            return night >= 0 && night < nights && night < MOST_NIGHTS;
        }

        int addMaster(int strength, int fromYear, int toYear) {
            if (!isStrength(strength) || !isYear(fromYear) || !isYear(toYear) || fromYear > toYear) {
                return NONE;
            }
            if (masters >= MOST_MASTERS) {
                return NONE;
            }
            strengths[masters] = strength;
            from[masters] = fromYear;
            to[masters] = toYear;
            masters++;
            return masters - 1;
        }

        boolean tellStay(int master, int town, int year) {
            if (!isMaster(master) || !isTown(town) || !isYear(year) || stayCount >= MOST_STAYS) {
                return false;
            }
            int place = master * YEARS + year;
            if ((stays[place] >>> town & 1) != 0) {
                return false;
            }
            stays[place] |= 1 << town;
            stayCount++;
            return true;
        }

        boolean putHabit(int master, int answer, int weight) {
            if (!isMaster(master) || !isAnswer(answer) || weight < 0 || weight > MOST_HABIT) {
                return false;
            }
            habits[master * ANSWER_KINDS + answer] = weight;
            return true;
        }

        int addNight(int year, int town, int strength, int result, int answer) {
            if (!isYear(year) || !isTown(town) || !isStrength(strength) || result < 0 || result > WON) {
                return NONE;
            }
            if (answer != NONE && !isAnswer(answer) || nights >= MOST_NIGHTS) {
                return NONE;
            }
            nightYears[nights] = year;
            nightTowns[nights] = town;
            opponents[nights] = strength;
            results[nights] = result;
            cheatAnswers[nights] = answer;
            nights++;
            return nights - 1;
        }

        int guessOne(int night, int master, int what) {
            if (!isNight(night) || !isMaster(master) || what < 0 || what > 1) {
                return NONE;
            }
            if (what == 1) {
                return weightOf(master, night);
            }
            startWeights();
            multiplyWeights(night);
            return oddsOf(master);
        }

        int guessRun(int a, int b, int master) {
            if (!isNight(a) || !isNight(b) || a > b || !isMaster(master)) {
                return NONE;
            }
            startWeights();
            for (int night = a; night <= b; night++) {
                multiplyWeights(night);
                shrinkWeights();
            }
            return oddsOf(master);
        }

        private void startWeights() {
            for (int i = 0; i < MOST_MASTERS; i++) {
                weights[i] = 1;
            }
        }

        private void multiplyWeights(int night) {
            for (int i = 0; i < masters && i < MOST_MASTERS; i++) {
                weights[i] *= weightOf(i, night);
            }
        }

        private void shrinkWeights() {
            long most = 0;
            for (int i = 0; i < masters && i < MOST_MASTERS; i++) {
                most = Math.max(most, weights[i]);
            }
            for (int i = 0; i < masters && i < MOST_MASTERS && most > MOST_WEIGHT; i++) {
                weights[i] /= 1000;
            }
        }

        private int oddsOf(int master) {
            long sum = 0;
            for (int i = 0; i < masters && i < MOST_MASTERS; i++) {
                sum += weights[i];
            }
            if (sum <= 0 || !isMaster(master)) {
                return NONE;
            }
            return (int) (1000 * weights[master] / sum);
        }

        private int weightOf(int master, int night) {
            if (!isMaster(master) || !isNight(night) || !canHaveBeenThere(master, night)) {
                return 0;
            }
            int game = gameWeight(strengths[master] - opponents[night], results[night]);
            int answer = cheatAnswers[night];
            return isAnswer(answer) ? game * habits[master * ANSWER_KINDS + answer] : game;
        }

        private boolean canHaveBeenThere(int master, int night) {
            int year = nightYears[night];
            if (!isYear(year) || year < from[master] || year > to[master]) {
                return false;
            }
            int towns = stays[master * YEARS + year];
            return towns == 0 || (towns >>> nightTowns[night] & 1) != 0;
        }

        private static int gameWeight(int difference, int result) {
            if (result == DRAWN) {
                return Math.max(1, 50 - Math.abs(difference) / 2);
            }
            int weight = result == WON ? 50 + difference : 50 - difference;
            return Math.max(1, Math.min(99, weight));
        }
    }

    /** What the works were told to answer, and the game that they may have played alone. */
    private static final class Answers {
        private static final int MOST_COUPLES = 60;
        private static final int MOST_MOVES = 40;

        private final int[] asked = new int[MOST_COUPLES];
        private final int[] played = new int[MOST_COUPLES];
        private int couples = 0;
        private final int[] moves = new int[MOST_MOVES];
        private int moveCount = 0;

        private static int moveCode(int f, int t) {
            return f * Board.SQUARES + t;
        }

        int tell(int f, int t, int ownF, int ownT) {
            if (!Board.isMove(f, t) || !Board.isMove(ownF, ownT) || couples >= MOST_COUPLES) {
                return NONE;
            }
            asked[couples] = moveCode(f, t);
            played[couples] = moveCode(ownF, ownT);
            couples++;
            return couples;
        }

        int play(int f, int t) {
            if (!Board.isMove(f, t) || moveCount >= MOST_MOVES) {
                return NONE;
            }
            moves[moveCount] = moveCode(f, t);
            moveCount++;
            return moveCount;
        }

        int factOf(int what) {
            switch (what) {
                case 0:
                    return playedAlone();
                case 1:
                    return playedAlone() == moveCount / 2 ? 1 : 0;
                case 2:
                    return emptyGame();
                default:
                    return NONE;
            }
        }

        private int emptyGame() {
            int had = moveCount;
            moveCount = 0;
            return had;
        }

        private int playedAlone() {
            int count = 0;
            for (int i = 1; i < moveCount && i < MOST_MOVES; i += 2) {
                if (answerTo(moves[i - 1]) != moves[i]) {
                    return count;
                }
                count++;
            }
            return count;
        }

        private int answerTo(int move) {
            for (int i = Math.min(couples, MOST_COUPLES) - 1; i >= 0; i--) {
                if (asked[i] == move) {
                    return played[i];
                }
            }
            return NONE;
        }
    }

    /** Who claimed what and when, and what of it is true. */
    private static final class Writers {
        private static final int MOST_WRITERS = 20;
        private static final int MOST_YEAR = 99;
        private static final int CLAIMS = 30;
        private static final int ALL_CLAIMS = (1 << CLAIMS) - 1;

        private final int[] years = new int[MOST_WRITERS];
        private final int[] claimSets = new int[MOST_WRITERS];
        private int count = 0;
        private int truthSet = 0;

        int add(int year, int claims) {
            if (year < 0 || year > MOST_YEAR || claims < 0 || claims > ALL_CLAIMS || count >= MOST_WRITERS) {
                return NONE;
            }
            years[count] = year;
            claimSets[count] = claims;
            count++;
            return count - 1;
        }

        boolean putTruth(int claims) {
            if (claims < 0 || claims > ALL_CLAIMS) {
                return false;
            }
            truthSet = claims;
            return true;
        }

        int firstWith(int claim) {
            if (claim < 0 || claim >= CLAIMS) {
                return NONE;
            }
            int best = NONE;
            for (int i = 0; i < count && i < MOST_WRITERS; i++) {
                if ((claimSets[i] >>> claim & 1) != 0 && (best == NONE || wroteBefore(i, best))) {
                    best = i;
                }
            }
            return best;
        }

        int factOf(int writer, int what) {
            if (!isWriter(writer)) {
                return NONE;
            }
            switch (what) {
                case 0:
                    return Integer.bitCount(claimSets[writer] & truthSet);
                case 1:
                    return Integer.bitCount(claimSets[writer] & ~truthSet);
                case 2:
                    return copiedFrom(writer);
                case 3:
                    return walkLine(writer, true);
                case 4:
                    return walkLine(writer, false);
                default:
                    return NONE;
            }
        }

        private boolean isWriter(int writer) {
            return writer >= 0 && writer < count && writer < MOST_WRITERS;
        }

        private boolean wroteBefore(int a, int b) {
            if (!isWriter(a) || !isWriter(b)) {
                return false;
            }
            return years[a] < years[b] || years[a] == years[b] && a < b;
        }

        private int copiedFrom(int writer) {
            if (!isWriter(writer)) {
                return NONE;
            }
            int best = NONE;
            int most = 1;
            for (int i = 0; i < count && i < MOST_WRITERS; i++) {
                int common = Integer.bitCount(claimSets[i] & claimSets[writer] & ~truthSet);
                boolean isLater = best == NONE || wroteBefore(best, i);
                if (wroteBefore(i, writer) && (common > most || common == most && isLater)) {
                    best = i;
                    most = common;
                }
            }
            return best;
        }

        /** Each one copied from somebody before him, so the line is no longer than the writers are many. */
        private int walkLine(int writer, boolean toTheLast) {
            int last = writer;
            int length = 1;
            for (int i = 0; i < MOST_WRITERS; i++) {
                int source = copiedFrom(last);
                if (source == NONE) {
                    break;
                }
                last = source;
                length++;
            }
            return toTheLast ? last : length;
        }
    }
}
