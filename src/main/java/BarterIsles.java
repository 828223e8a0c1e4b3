import java.util.Arrays;
import java.util.NoSuchElementException;

/** Islands that trade their names. README.md says how to use it; the document's promises say what each call does. */
public final class BarterIsles {
    public static final int NONE = -1;

    private static final int MOST_ISLES = 8;
    private static final int MOST_LETTERS = 9;
    private static final int MOST_FAIRS = 12;
    private static final int MOST_BYTES = 700;
    private static final int MOST_ACTS = 40;
    private static final int MOST_SEEN = 8;
    private static final int MOST_SALES = 3;
    private static final int MOST_JOINED = 5;
    private static final int MOST_ROUTED = 6;
    private static final int ROUTES = 720;
    private static final int MOST_WITHIN = 6;
    private static final int MOST_NOTS = 6;
    private static final int MOST_DIGITS = 4;
    private static final int LAST_PLACE = 60;
    private static final int LAST_FAIR = 200;
    private static final int LAST_TIDE = 9;
    private static final int MOST_YEARS = 100;
    private static final int MOST_MOUTHS = 99;
    private static final int FARTHEST = 120;
    private static final int SLOWEST = 1;
    private static final int FASTEST = 9;
    private static final int SPEED_UNTOLD = 3;
    private static final int NORTH = 2;
    private static final int REFUSED = -99;
    private static final int SPENT = -2;

    private static final int CANT_STAND = 1;
    private static final int TOO_MUCH = 2;
    private static final int NOT_TOLD = 3;
    private static final int TOLD_ALREADY = 4;
    private static final int SECOND = 5;

    private static final int TEXTS = 0;
    private static final int ACTS = 1;
    private static final int SIGHTS = 2;

    private final Tape tape = new Tape();
    private final Sea now = new Sea();
    private final Sea draft = new Sea();
    private final SeaReader reader = new SeaReader(tape, draft);
    private final World world = new World(now);
    private final World trial = new World(now);
    private final World kept = new World(now);
    private final Records records = new Records();
    private final Records keptRecords = new Records();
    private final Likes likes = new Likes(now, world);
    private final Permits permits = new Permits(world);
    private final Routes routes = new Routes(world, permits);
    private final Rows rows = new Rows(world, permits, records);
    private final int[] refusals = new int[3];
    private boolean hasImage = false;
    // What is worked out from the state is kept for as long as this number stays.
    private int changes = 0;

    public BarterIsles() {
    }

    public int feed(int a, int b, int c, int d, int e) {
        if (!tape.hasRoom(20)) {
            return NONE;
        }
        tape.put(a);
        tape.put(b);
        tape.put(c);
        tape.put(d);
        tape.put(e);
        return tape.bytes;
    }

    public int sea(int n) throws IllegalArgumentException {
        if (n < 0 || n > tape.bytes) {
            throw new IllegalArgumentException("the tape has not so many");
        }
        int fault = reader.read(n);
        tape.bytes = 0;
        if (fault != 0) {
            refusals[TEXTS]++;
            return fault;
        }
        now.copy(draft);
        world.begin();
        records.clear();
        hasImage = false;
        changes++;
        return 0;
    }

    public int fault() {
        return tape.faultPlace;
    }

    public int count(int what) throws NoSuchElementException {
        switch (what) {
            case 0:
                return now.isles;
            case 1:
                return now.fairs;
            case 2:
                return now.speed;
            case 3:
                return world.year;
            case 4:
                return records.acts;
            case 5:
                return records.seen;
            case 6:
                return tape.bytes;
            case 7:
                return refusals[TEXTS];
            case 8:
                return refusals[ACTS];
            case 9:
                return refusals[SIGHTS];
            case 10:
                return world.atHome();
            default:
                throw new NoSuchElementException("no such count");
        }
    }

    public int name(int name, int what) throws NoSuchElementException {
        needName(name);
        switch (what) {
            case 0:
                return now.words.lengths[name];
            case 1:
                return now.xs[name];
            case 2:
                return now.ys[name];
            case 3:
                return now.sorts[name];
            case 4:
                return world.holder(name);
            default:
                throw new NoSuchElementException("a name has no such thing");
        }
    }

    public int letter(int name, int i) throws NoSuchElementException {
        needName(name);
        needBelow(i, now.words.lengths[name]);
        return now.words.sign(name, i);
    }

    public int has(int isle) throws NoSuchElementException {
        needIsle(isle);
        return world.names[isle];
    }

    public int debt(int one, int other) throws NoSuchElementException, IllegalArgumentException {
        needTwo(one, other);
        return world.owes(one, other);
    }

    public boolean may(int one, int other) throws NoSuchElementException, IllegalArgumentException {
        needTwo(one, other);
        return world.lets(one, other);
    }

    public int swap(int one, int other) throws NoSuchElementException {
        needIsle(one);
        needIsle(other);
        if (one == other || !world.lets(one, other)) {
            refusals[ACTS]++;
            return REFUSED;
        }
        changes++;
        records.add(Records.SWAP, one, other, 0);
        return world.exchange(one, other);
    }

    public int year() {
        changes++;
        int held = world.passYear();
        records.add(Records.YEAR, 0, 0, held);
        return Integer.bitCount(held);
    }

    public int forgive(int one, int other) throws NoSuchElementException, IllegalArgumentException {
        needTwo(one, other);
        changes++;
        int owed = world.owes(one, other);
        records.add(Records.FORGIVEN, one, other, owed);
        world.setDebt(one, other, 0);
        return owed;
    }

    public int undo() {
        if (records.acts == 0) {
            return NONE;
        }
        changes++;
        records.undoLast(world);
        return records.acts;
    }

    public boolean prefers(int isle, int name, int other) throws NoSuchElementException {
        needIsle(isle);
        needName(name);
        needName(other);
        return likes.likesMore(isle, name, other);
    }

    public int glad(int what) throws NoSuchElementException {
        needFirstOrCount(what);
        return what == 0 ? likes.gladCouples() : likes.firstGladCouple();
    }

    public int round(int isle) throws NoSuchElementException {
        needIsleOrNone(isle);
        likes.goRound();
        return isle == NONE ? likes.longest : likes.gets[isle];
    }

    public int leave() {
        return likes.smallestLeaving();
    }

    public int swaps(int arrangement, int what) throws NoSuchElementException, IllegalArgumentException {
        if (what < 0 || what > 2) {
            throw new NoSuchElementException("swaps have no such thing");
        }
        if (!routes.isArrangement(arrangement)) {
            throw new IllegalArgumentException("no arrangement of all names");
        }
        if (what == 2) {
            return routes.fewestOfItself(arrangement);
        }
        if (now.isles > MOST_ROUTED) {
            return SPENT;
        }
        routes.find(changes);
        return what == 0 ? routes.fewest(arrangement) : routes.firstSwap(arrangement);
    }

    public int ship(int x, int y, int isle) throws NoSuchElementException, IllegalArgumentException {
        needIsle(isle);
        needPlace(x, y);
        trial.copy(world);
        return sail(x, y, isle);
    }

    public int joined(int one, int other, int i) throws NoSuchElementException, IllegalArgumentException {
        needName(one);
        needName(other);
        needUnlike(one, other);
        int length = now.words.joinedLength(one, other);
        if (i == NONE) {
            return length;
        }
        needBelow(i, length);
        return now.words.joinedSign(one, other, i);
    }

    public boolean inside(int one, int other) throws NoSuchElementException {
        needName(one);
        needName(other);
        return now.words.isIn(one, other);
    }

    public int shortest(int set, int i) throws NoSuchElementException, IllegalArgumentException {
        if (set < 0 || set >= 1 << now.isles || Integer.bitCount(set) > MOST_JOINED) {
            throw new IllegalArgumentException("no such set of names");
        }
        needNoneOrMore(i);
        now.words.findShortest(set);
        return i == NONE ? now.words.shortestLength : now.words.shortestOrder(i);
    }

    public int worn(int name, int mouths, int i) throws NoSuchElementException, IllegalArgumentException {
        needName(name);
        needAmount(mouths, MOST_MOUTHS);
        int start = now.words.wornStart(name, mouths);
        int length = now.words.wornEnd(name, mouths) - start;
        if (i == NONE) {
            return length;
        }
        needBelow(i, length);
        return now.words.sign(name, start + i);
    }

    public int tide(int tide) throws IllegalArgumentException {
        needAmount(tide, LAST_TIDE);
        int couples = 0;
        for (int one = 0; one < now.isles; one++) {
            for (int other = one + 1; other < now.isles; other++) {
                if (world.lieOnEachOther(one, other, tide)) {
                    couples++;
                }
            }
        }
        return couples;
    }

    public int lies(int one, int other) throws NoSuchElementException, IllegalArgumentException {
        needTwo(one, other);
        for (int tide = LAST_TIDE; tide >= 0; tide--) {
            if (world.lieOnEachOther(one, other, tide)) {
                return tide;
            }
        }
        return NONE;
    }

    public int see(int isle, int name) throws NoSuchElementException {
        needIsle(isle);
        needName(name);
        if (records.seen >= MOST_SEEN) {
            refusals[SIGHTS]++;
            return NONE;
        }
        changes++;
        records.addSeen(isle, name);
        return records.seen;
    }

    public void forget() {
        changes++;
        records.seen = 0;
    }

    public int sales(int k, int i) throws NoSuchElementException, IllegalArgumentException {
        needNoneOrMore(i);
        needAmount(k, MOST_SALES);
        rows.find(k, false, changes);
        return i == NONE ? rows.found : rows.ofFirst(i);
    }

    public int look(int k) throws IllegalArgumentException {
        needAmount(k, MOST_SALES);
        rows.find(k, true, changes);
        return rows.lookNext();
    }

    public int clerks(int one, int other, int what) throws NoSuchElementException, IllegalArgumentException {
        needFirstOrCount(what);
        needTwo(one, other);
        int resting = 0;
        int first = NONE;
        for (int claim = 0; claim < now.isles; claim++) {
            for (int claimed = 0; claimed < now.isles; claimed++) {
                if (isBestClaim(one, claim, claimed) && isBestClaim(other, claimed, claim)) {
                    resting++;
                    first = first == NONE ? 10 * claim + claimed : first;
                }
            }
        }
        return what == 0 ? resting : first;
    }

    public int century(int seed, int years, int isle) throws NoSuchElementException, IllegalArgumentException {
        needIsleOrNone(isle);
        needAmount(years, MOST_YEARS);
        trial.copy(world);
        int done = liveCentury(seed, years);
        return isle == NONE ? done : trial.names[isle];
    }

    public int weather(int x, int y, int far) throws IllegalArgumentException {
        needPlace(x, y);
        needAmount(far, FARTHEST);
        int near = 0;
        for (int isle = 0; isle < now.isles; isle++) {
            int name = world.names[isle];
            if (now.sorts[name] == NORTH && now.farFrom(name, x, y) <= far) {
                near++;
            }
        }
        return near;
    }

    public int owed(int what) throws NoSuchElementException {
        needFirstOrCount(what);
        int most = 0;
        int whom = NONE;
        for (int isle = 0; isle < now.isles; isle++) {
            int owed = world.owedTo(isle);
            if (owed > most) {
                most = owed;
                whom = isle;
            }
        }
        return what == 0 ? whom : most;
    }

    public int caravan(int isle) throws NoSuchElementException {
        needIsle(isle);
        int reached = world.names[isle];
        int isles = 1;
        // An isle had the name of its own number at first, so a name's home is its number.
        while (reached != isle && isles < MOST_ISLES) {
            reached = world.names[reached];
            isles++;
        }
        return isles;
    }

    public void image() {
        kept.copy(world);
        keptRecords.copy(records);
        hasImage = true;
    }

    public boolean restore() {
        if (!hasImage) {
            return false;
        }
        changes++;
        world.copy(kept);
        records.copy(keptRecords);
        return true;
    }

    private void needIsle(int isle) {
        if (isle < 0 || isle >= now.isles) {
            throw new NoSuchElementException("no such isle");
        }
    }

    private void needIsleOrNone(int isle) {
        if (isle != NONE) {
            needIsle(isle);
        }
    }

    private void needName(int name) {
        if (name < 0 || name >= now.isles) {
            throw new NoSuchElementException("no such name");
        }
    }

    private static void needUnlike(int one, int other) {
        if (one == other) {
            throw new IllegalArgumentException("both are one");
        }
    }

    private void needTwo(int one, int other) {
        needIsle(one);
        needIsle(other);
        needUnlike(one, other);
    }

    private static void needFirstOrCount(int what) {
        if (what != 0 && what != 1) {
            throw new NoSuchElementException("only 0 and 1 are asked for");
        }
    }

    private static void needBelow(int i, int length) {
        if (i < 0 || i >= length) {
            throw new NoSuchElementException("there is none");
        }
    }

    private static void needNoneOrMore(int i) {
        if (i < NONE) {
            throw new NoSuchElementException("below none");
        }
    }

    private static void needPlace(int x, int y) {
        needAmount(x, LAST_PLACE);
        needAmount(y, LAST_PLACE);
    }

    private static void needAmount(int amount, int most) {
        if (amount < 0 || amount > most) {
            throw new IllegalArgumentException("not as much as the document tells");
        }
    }

    /** Sails in the trial world: the check stands between the ship's going and the FAIRS of that year. */
    private int sail(int x, int y, int isle) {
        int shipX = x;
        int shipY = y;
        for (int years = 0; years <= MOST_YEARS; years++) {
            int name = trial.names[isle];
            if (years > 0) {
                int alongX = Math.min(now.speed, Math.abs(now.xs[name] - shipX));
                int alongY = Math.min(now.speed - alongX, Math.abs(now.ys[name] - shipY));
                shipX += now.xs[name] < shipX ? -alongX : alongX;
                shipY += now.ys[name] < shipY ? -alongY : alongY;
            }
            if (now.farFrom(name, shipX, shipY) == 0) {
                return years;
            }
            if (years > 0) {
                trial.passYear();
            }
        }
        return NONE;
    }

    /** Lives it in the trial world: how many swaps there were beside those of fairs. */
    private int liveCentury(int seed, int years) {
        int drawn = seed;
        int done = 0;
        for (int i = 0; i < years; i++) {
            if (now.isles > 0) {
                drawn = nextSeed(drawn);
                int one = draw(drawn, now.isles);
                drawn = nextSeed(drawn);
                int other = draw(drawn, now.isles);
                if (one != other && trial.lets(one, other)) {
                    trial.exchange(one, other);
                    done++;
                }
            }
            trial.passYear();
        }
        return done;
    }

    private static int nextSeed(int seed) {
        return seed * 1103515245 + 12345;
    }

    private static int draw(int seed, int n) {
        return n > 0 ? ((seed >>> 16) & 32767) % n : 0;
    }

    private boolean isBestClaim(int isle, int claim, int othersClaim) {
        int gain = claimGain(isle, claim, othersClaim);
        for (int another = 0; another < now.isles; another++) {
            if (claimGain(isle, another, othersClaim) > gain) {
                return false;
            }
        }
        return true;
    }

    private int claimGain(int isle, int claim, int othersClaim) {
        if (claim == othersClaim) {
            return 0;
        }
        return 10 * now.words.lengths[claim] - now.apart(claim, world.names[isle]);
    }

    /** The bytes that were fed, and the TOKENS along them. */
    private static final class Tape {
        // A sign is its own byte as a kind; these lie outside of bytes.
        static final int END = 256;
        static final int WORD = 257;
        static final int NUMBER = 258;
        static final int NO_TOKEN = 259;

        final byte[] signs = new byte[MOST_BYTES];
        int bytes = 0;
        int length = 0;
        int kind = END;
        int start = 0;
        int end = 0;
        int value = 0;
        int fault = 0;
        int faultPlace = NONE;

        boolean hasRoom(int more) {
            return bytes + more <= MOST_BYTES;
        }

        void put(int four) {
            for (int shift = 24; shift >= 0 && bytes < MOST_BYTES; shift -= 8) {
                signs[bytes] = (byte) (four >>> shift);
                bytes++;
            }
        }

        void open(int n) {
            length = n;
            end = 0;
            fault = 0;
            faultPlace = NONE;
            step();
        }

        int at(int place) {
            return place >= 0 && place < length ? signs[place] & 255 : 0;
        }

        /** To the next TOKEN; behind a fault there is none any more. */
        void step() {
            if (fault != 0) {
                return;
            }
            start = end;
            while (start < length && (at(start) == ' ' || at(start) == '\n')) {
                start++;
            }
            kind = start < length ? kindOf(at(start)) : END;
            end = start < length ? start + 1 : start;
            boolean row = kind == WORD || kind == NUMBER;
            while (row && end < length && kindOf(at(end)) == kind) {
                end++;
            }
            value = 0;
            // Longer numbers are refused: their values are never asked for, and would wrap.
            for (int i = start; kind == NUMBER && i < end && i < start + MOST_DIGITS; i++) {
                value = 10 * value + at(i) - '0';
            }
        }

        private static int kindOf(int sign) {
            if (sign >= 'a' && sign <= 'z') {
                return WORD;
            }
            if (sign >= '0' && sign <= '9') {
                return NUMBER;
            }
            return ";()+-*/<=".indexOf((char) sign) >= 0 ? sign : NO_TOKEN;
        }

        int size() {
            return end - start;
        }

        boolean isWord(String word) {
            if (kind != WORD || size() != word.length()) {
                return false;
            }
            for (int i = 0; i < word.length(); i++) {
                if (at(start + i) != word.charAt(i)) {
                    return false;
                }
            }
            return true;
        }

        /** The first fault is the one that counts; no TOKEN is there behind it, so all reading runs out. */
        void refuse(int why) {
            if (fault == 0) {
                fault = why;
                faultPlace = start;
                kind = NO_TOKEN;
            }
        }

        void takeSign(int sign) {
            if (kind == sign) {
                step();
            } else {
                refuse(CANT_STAND);
            }
        }

        /** Whether a NUMBER as told stands here; it is not taken yet, for more may be wrong with it. */
        boolean standsNumber(int least, int most) {
            if (kind != NUMBER) {
                refuse(CANT_STAND);
            } else if (size() > MOST_DIGITS || value < least || value > most) {
                refuse(TOO_MUCH);
            }
            return fault == 0;
        }

        int takeNumber(int least, int most) {
            int taken = standsNumber(least, most) ? value : least;
            step();
            return taken;
        }

        /** Whether the number of one of those that were told stands here. */
        boolean standsTold(int told) {
            if (standsNumber(0, 9999) && value >= told) {
                refuse(NOT_TOLD);
            }
            return fault == 0;
        }
    }

    /** The WORDS of NAMES, and what is made of them. */
    private static final class Words {
        final byte[] letters = new byte[MOST_ISLES * MOST_LETTERS];
        final int[] lengths = new int[MOST_ISLES];
        private final int[] order = new int[MOST_JOINED];
        private final int[] best = new int[MOST_JOINED];
        private int ordered = 0;
        int shortestLength = 0;

        void copy(Words from) {
            System.arraycopy(from.letters, 0, letters, 0, letters.length);
            System.arraycopy(from.lengths, 0, lengths, 0, lengths.length);
        }

        void put(int name, Tape tape) {
            int length = Math.min(tape.size(), MOST_LETTERS);
            for (int i = 0; i < length; i++) {
                letters[name * MOST_LETTERS + i] = (byte) (tape.at(tape.start + i) - 'a' + 1);
            }
            lengths[name] = length;
        }

        int sign(int name, int i) {
            return letters[name * MOST_LETTERS + i];
        }

        boolean alike(int one, int other) {
            return lengths[one] == lengths[other] && runsAlike(one, 0, other, 0, lengths[one]);
        }

        private boolean runsAlike(int one, int from, int other, int otherFrom, int length) {
            for (int i = 0; i < length; i++) {
                if (sign(one, from + i) != sign(other, otherFrom + i)) {
                    return false;
                }
            }
            return true;
        }

        private int overlap(int one, int other) {
            for (int length = Math.min(lengths[one], lengths[other]) - 1; length > 0; length--) {
                if (runsAlike(one, lengths[one] - length, other, 0, length)) {
                    return length;
                }
            }
            return 0;
        }

        int joinedLength(int one, int other) {
            return lengths[one] + lengths[other] - overlap(one, other);
        }

        int joinedSign(int one, int other, int i) {
            return i < lengths[one] ? sign(one, i) : sign(other, i - lengths[one] + overlap(one, other));
        }

        boolean isIn(int one, int other) {
            for (int from = 0; from + lengths[one] <= lengths[other]; from++) {
                if (runsAlike(one, 0, other, from, lengths[one])) {
                    return true;
                }
            }
            return false;
        }

        void findShortest(int set) {
            shortestLength = MOST_JOINED * MOST_LETTERS + 1;
            ordered = 0;
            lay(withoutThoseInside(set), 0, 0);
        }

        private int withoutThoseInside(int set) {
            int asked = set;
            for (int one = 0; one < MOST_ISLES; one++) {
                for (int other = 0; other < MOST_ISLES; other++) {
                    boolean both = (set >> one & 1) == 1 && (set >> other & 1) == 1;
                    if (both && one != other && isIn(one, other)) {
                        asked &= ~(1 << one);
                    }
                }
            }
            return asked;
        }

        /** Orders come as rows of NAMES do, so the first of the shortest ones is kept. */
        private void lay(int left, int laid, int length) {
            if (left == 0 || laid >= MOST_JOINED) {
                if (length < shortestLength) {
                    shortestLength = length;
                    ordered = laid;
                    System.arraycopy(order, 0, best, 0, MOST_JOINED);
                }
                return;
            }
            for (int name = 0; name < MOST_ISLES; name++) {
                if ((left >> name & 1) == 1) {
                    order[laid] = name;
                    int shared = laid == 0 ? 0 : overlap(order[laid - 1], name);
                    lay(left & ~(1 << name), laid + 1, length + lengths[name] - shared);
                }
            }
        }

        int shortestOrder(int i) {
            return i >= 0 && i < ordered ? best[i] : NONE;
        }

        private int staying(int name) {
            for (int i = 0; i < lengths[name]; i++) {
                int sign = sign(name, i);
                if (sign == 1 || sign == 5 || sign == 9 || sign == 15 || sign == 21) {
                    return i;
                }
            }
            return 0;
        }

        int wornEnd(int name, int mouths) {
            return Math.max(staying(name) + 1, lengths[name] - mouths);
        }

        int wornStart(int name, int mouths) {
            int hungry = mouths - (lengths[name] - wornEnd(name, mouths));
            return Math.min(staying(name), hungry);
        }
    }

    /** A rule, as the row of its steps on a stack: what is 0 or more is a NUMBER. */
    private static final class Law {
        static final int VALUES = 7;
        private static final int NOT = -10;
        private static final int PLUS = -11;
        private static final int MINUS = -12;
        private static final int TIMES = -13;
        private static final int OVER = -14;
        private static final int LESS = -15;
        private static final int SAME = -16;
        private static final int AND = -17;
        private static final int OR = -18;
        // Five operands at most wait at each of the six EXPRs that may be open at once.
        private static final int MOST_WAITING = 40;

        final int[] values = new int[VALUES];
        private final int[] steps = new int[MOST_BYTES];
        private final int[] stack = new int[MOST_WAITING];
        private int size = 0;
        boolean told = false;

        void clear() {
            size = 0;
            told = false;
        }

        void copy(Law from) {
            System.arraycopy(from.steps, 0, steps, 0, from.size);
            size = from.size;
            told = from.told;
        }

        private void add(int step) {
            if (size < MOST_BYTES) {
                steps[size] = step;
                size++;
            }
        }

        void readExpr(Tape tape, int within) {
            boolean begins = tape.kind == Tape.NUMBER || tape.kind == Tape.WORD || tape.kind == '(';
            if (within >= MOST_WITHIN && begins) {
                tape.refuse(TOO_MUCH);
            }
            readAnd(tape, within);
            for (int i = 0; i < MOST_BYTES && tape.isWord("or"); i++) {
                tape.step();
                readAnd(tape, within);
                add(OR);
            }
        }

        private void readAnd(Tape tape, int within) {
            readNot(tape, within);
            for (int i = 0; i < MOST_BYTES && tape.isWord("and"); i++) {
                tape.step();
                readNot(tape, within);
                add(AND);
            }
        }

        private void readNot(Tape tape, int within) {
            int nots = 0;
            for (int i = 0; i < MOST_BYTES && tape.isWord("not"); i++) {
                if (nots >= MOST_NOTS) {
                    tape.refuse(TOO_MUCH);
                }
                tape.step();
                nots++;
            }
            readTest(tape, within);
            for (int i = 0; i < nots; i++) {
                add(NOT);
            }
        }

        private void readTest(Tape tape, int within) {
            readSum(tape, within);
            int step = tape.kind == '<' ? LESS : SAME;
            if (tape.kind == '<' || tape.kind == '=') {
                tape.step();
                readSum(tape, within);
                add(step);
            }
        }

        private void readSum(Tape tape, int within) {
            readProduct(tape, within);
            for (int i = 0; i < MOST_BYTES && (tape.kind == '+' || tape.kind == '-'); i++) {
                int step = tape.kind == '+' ? PLUS : MINUS;
                tape.step();
                readProduct(tape, within);
                add(step);
            }
        }

        private void readProduct(Tape tape, int within) {
            readPart(tape, within);
            for (int i = 0; i < MOST_BYTES && (tape.kind == '*' || tape.kind == '/'); i++) {
                int step = tape.kind == '*' ? TIMES : OVER;
                tape.step();
                readPart(tape, within);
                add(step);
            }
        }

        private void readPart(Tape tape, int within) {
            if (tape.kind == '(') {
                tape.step();
                readExpr(tape, within + 1);
                tape.takeSign(')');
            } else if (tape.kind == Tape.WORD) {
                int value = valueAt(tape);
                if (value == NONE) {
                    tape.refuse(NOT_TOLD);
                }
                add(-1 - value);
                tape.step();
            } else {
                add(tape.takeNumber(0, 9999));
            }
        }

        private static int valueAt(Tape tape) {
            if (tape.isWord("mine")) {
                return 0;
            }
            if (tape.isWord("yours")) {
                return 1;
            }
            if (tape.isWord("far")) {
                return 2;
            }
            if (tape.isWord("sort")) {
                return 3;
            }
            if (tape.isWord("other")) {
                return 4;
            }
            if (tape.isWord("debt")) {
                return 5;
            }
            return tape.isWord("year") ? 6 : NONE;
        }

        /** Whether it holds for the values that were put. */
        boolean holds() {
            int top = 0;
            for (int i = 0; i < size; i++) {
                int step = steps[i];
                if (step >= -VALUES) {
                    if (top < MOST_WAITING) {
                        stack[top] = step >= 0 ? step : values[-1 - step];
                        top++;
                    }
                } else if (step == NOT) {
                    if (top >= 1) {
                        stack[top - 1] = stack[top - 1] == 0 ? 1 : 0;
                    }
                } else if (top >= 2) {
                    top--;
                    stack[top - 1] = combine(step, stack[top - 1], stack[top]);
                }
            }
            return top >= 1 && stack[top - 1] != 0;
        }

        private static int combine(int step, int one, int other) {
            switch (step) {
                case PLUS:
                    return one + other;
                case MINUS:
                    return one - other;
                case TIMES:
                    return one * other;
                case OVER:
                    return other == 0 ? 0 : one / other;
                case LESS:
                    return one < other ? 1 : 0;
                case SAME:
                    return one == other ? 1 : 0;
                case AND:
                    return one != 0 && other != 0 ? 1 : 0;
                default:
                    return one != 0 || other != 0 ? 1 : 0;
            }
        }
    }

    /** What a text told. */
    private static final class Sea {
        int isles = 0;
        int fairs = 0;
        int speed = SPEED_UNTOLD;
        boolean speedTold = false;
        final Words words = new Words();
        final Law law = new Law();
        final int[] xs = new int[MOST_ISLES];
        final int[] ys = new int[MOST_ISLES];
        final int[] sorts = new int[MOST_ISLES];
        // By ISLE: how many it wishes for; by ISLE and NAME: which one of these from 1 on, 0 if none.
        final int[] wished = new int[MOST_ISLES];
        final int[] wishes = new int[MOST_ISLES * MOST_ISLES];
        final int[] fairYears = new int[MOST_FAIRS];
        final int[] fairOnes = new int[MOST_FAIRS];
        final int[] fairOthers = new int[MOST_FAIRS];

        void clear() {
            isles = 0;
            fairs = 0;
            speed = SPEED_UNTOLD;
            speedTold = false;
            law.clear();
            Arrays.fill(wished, 0);
            Arrays.fill(wishes, 0);
        }

        void copy(Sea from) {
            isles = from.isles;
            fairs = from.fairs;
            speed = from.speed;
            words.copy(from.words);
            law.copy(from.law);
            System.arraycopy(from.xs, 0, xs, 0, MOST_ISLES);
            System.arraycopy(from.ys, 0, ys, 0, MOST_ISLES);
            System.arraycopy(from.sorts, 0, sorts, 0, MOST_ISLES);
            System.arraycopy(from.wished, 0, wished, 0, MOST_ISLES);
            System.arraycopy(from.wishes, 0, wishes, 0, MOST_ISLES * MOST_ISLES);
            System.arraycopy(from.fairYears, 0, fairYears, 0, MOST_FAIRS);
            System.arraycopy(from.fairOnes, 0, fairOnes, 0, MOST_FAIRS);
            System.arraycopy(from.fairOthers, 0, fairOthers, 0, MOST_FAIRS);
        }

        int farFrom(int name, int x, int y) {
            return Math.abs(xs[name] - x) + Math.abs(ys[name] - y);
        }

        int apart(int one, int other) {
            return Math.abs(xs[one] - xs[other]) + Math.abs(ys[one] - ys[other]);
        }

        boolean lawHolds(int mine, int yours, int debt, int year) {
            if (!law.told) {
                return true;
            }
            law.values[0] = words.lengths[mine];
            law.values[1] = words.lengths[yours];
            law.values[2] = apart(mine, yours);
            law.values[3] = sorts[mine];
            law.values[4] = sorts[yours];
            law.values[5] = debt;
            law.values[6] = year;
            return law.holds();
        }
    }

    /** Reads a text into a draft, so that a text with a fault changes nothing. */
    private static final class SeaReader {
        private final Tape tape;
        private final Sea sea;

        SeaReader(Tape tape, Sea draft) {
            this.tape = tape;
            this.sea = draft;
        }

        int read(int n) {
            tape.open(n);
            sea.clear();
            for (int i = 0; i < MOST_BYTES && tape.fault == 0 && tape.kind != Tape.END; i++) {
                readLine();
                tape.takeSign(';');
            }
            return tape.fault;
        }

        private void readLine() {
            if (tape.isWord("name")) {
                readName();
            } else if (tape.isWord("wish")) {
                readWish();
            } else if (tape.isWord("fair")) {
                readFair();
            } else if (tape.isWord("speed")) {
                readSpeed();
            } else if (tape.isWord("law")) {
                readLaw();
            } else {
                tape.refuse(CANT_STAND);
            }
        }

        private void readName() {
            if (sea.isles >= MOST_ISLES) {
                tape.refuse(TOO_MUCH);
                return;
            }
            tape.step();
            readWord();
            int x = tape.takeNumber(0, LAST_PLACE);
            int y = tape.takeNumber(0, LAST_PLACE);
            int sort = tape.isWord("colony") ? 1 : tape.isWord("north") ? NORTH : 0;
            if (sort != 0) {
                tape.step();
            }
            sea.xs[sea.isles] = x;
            sea.ys[sea.isles] = y;
            sea.sorts[sea.isles] = sort;
            sea.isles++;
        }

        private void readWord() {
            if (tape.kind != Tape.WORD) {
                tape.refuse(CANT_STAND);
            } else if (tape.size() > MOST_LETTERS) {
                tape.refuse(TOO_MUCH);
            }
            sea.words.put(sea.isles, tape);
            for (int name = 0; name < sea.isles; name++) {
                if (sea.words.alike(name, sea.isles)) {
                    tape.refuse(TOLD_ALREADY);
                }
            }
            tape.step();
        }

        private void readWish() {
            tape.step();
            int isle = tape.standsTold(sea.isles) ? tape.value : NONE;
            if (isle == NONE) {
                return;
            }
            if (sea.wished[isle] > 0) {
                tape.refuse(SECOND);
            }
            tape.step();
            readWishedName(isle);
            for (int i = 0; i < MOST_ISLES && tape.kind == Tape.NUMBER; i++) {
                readWishedName(isle);
            }
        }

        private void readWishedName(int isle) {
            if (!tape.standsTold(sea.isles)) {
                return;
            }
            int at = isle * MOST_ISLES + tape.value;
            if (sea.wishes[at] != 0) {
                tape.refuse(TOLD_ALREADY);
            }
            sea.wished[isle]++;
            sea.wishes[at] = sea.wished[isle];
            tape.step();
        }

        private void readFair() {
            if (sea.fairs >= MOST_FAIRS) {
                tape.refuse(TOO_MUCH);
                return;
            }
            tape.step();
            sea.fairYears[sea.fairs] = tape.takeNumber(0, LAST_FAIR);
            int one = tape.standsTold(sea.isles) ? tape.value : NONE;
            tape.step();
            int other = tape.standsTold(sea.isles) ? tape.value : NONE;
            if (one == other) {
                tape.refuse(TOLD_ALREADY);
            }
            tape.step();
            sea.fairOnes[sea.fairs] = one;
            sea.fairOthers[sea.fairs] = other;
            sea.fairs++;
        }

        private void readSpeed() {
            if (sea.speedTold) {
                tape.refuse(SECOND);
            }
            tape.step();
            sea.speed = tape.takeNumber(SLOWEST, FASTEST);
            sea.speedTold = true;
        }

        private void readLaw() {
            if (sea.law.told) {
                tape.refuse(SECOND);
            }
            tape.step();
            sea.law.readExpr(tape, 0);
            sea.law.told = true;
        }
    }

    /** Who has which NAME, who owes whom, and the YEAR. */
    private static final class World {
        final Sea sea;
        final int[] names = new int[MOST_ISLES];
        // Each debt stands twice, with both signs, so that no one asks which way round it is kept.
        private final int[] debts = new int[MOST_ISLES * MOST_ISLES];
        int year = 0;

        World(Sea sea) {
            this.sea = sea;
        }

        void begin() {
            for (int isle = 0; isle < MOST_ISLES; isle++) {
                names[isle] = isle;
            }
            Arrays.fill(debts, 0);
            year = 0;
        }

        void copy(World from) {
            System.arraycopy(from.names, 0, names, 0, names.length);
            System.arraycopy(from.debts, 0, debts, 0, debts.length);
            year = from.year;
        }

        int atHome() {
            int home = 0;
            for (int isle = 0; isle < sea.isles; isle++) {
                home += names[isle] == isle ? 1 : 0;
            }
            return home;
        }

        int holder(int name) {
            for (int isle = 0; isle < sea.isles; isle++) {
                if (names[isle] == name) {
                    return isle;
                }
            }
            return NONE;
        }

        int owes(int one, int other) {
            return debts[one * MOST_ISLES + other];
        }

        void setDebt(int one, int other, int amount) {
            debts[one * MOST_ISLES + other] = amount;
            debts[other * MOST_ISLES + one] = -amount;
        }

        int owedTo(int isle) {
            int sum = 0;
            for (int other = 0; other < sea.isles; other++) {
                sum += Math.max(0, owes(other, isle));
            }
            return sum;
        }

        boolean lets(int one, int other) {
            return letsWith(one, other, names[one], names[other]);
        }

        /** Whether they might, had they these names, by debts and the year as they are. */
        boolean letsWith(int one, int other, int mine, int yours) {
            return sea.lawHolds(mine, yours, owes(one, other), year)
                && sea.lawHolds(yours, mine, owes(other, one), year);
        }

        /** Done twice it undoes itself, debts too. */
        int exchange(int one, int other) {
            int more = sea.words.lengths[names[other]] - sea.words.lengths[names[one]];
            int mine = names[one];
            names[one] = names[other];
            names[other] = mine;
            setDebt(one, other, owes(one, other) + more);
            return more;
        }

        /** The FAIRS that there were, as bits. */
        int passYear() {
            int held = 0;
            for (int fair = 0; fair < sea.fairs; fair++) {
                int one = sea.fairOnes[fair];
                int other = sea.fairOthers[fair];
                if (sea.fairYears[fair] == year && lets(one, other)) {
                    exchange(one, other);
                    held |= 1 << fair;
                }
            }
            year++;
            return held;
        }

        void takeYearBack(int held) {
            year--;
            for (int fair = sea.fairs - 1; fair >= 0; fair--) {
                if ((held >> fair & 1) == 1) {
                    exchange(sea.fairOnes[fair], sea.fairOthers[fair]);
                }
            }
        }

        boolean lieOnEachOther(int one, int other, int tide) {
            int mine = names[one];
            int yours = names[other];
            int begin = Math.max(sea.xs[mine], sea.xs[yours]) + tide;
            int end = Math.min(sea.xs[mine] + sea.words.lengths[mine], sea.xs[yours] + sea.words.lengths[yours]) - tide;
            return sea.ys[mine] == sea.ys[yours] && begin < end;
        }
    }

    /** The ACTS that are kept and what is SEEN. */
    private static final class Records {
        static final int SWAP = 0;
        static final int YEAR = 1;
        static final int FORGIVEN = 2;

        int acts = 0;
        int seen = 0;
        private final int[] kinds = new int[MOST_ACTS];
        private final int[] ones = new int[MOST_ACTS];
        private final int[] others = new int[MOST_ACTS];
        // What a forgiven debt was, or the FAIRS of a YEAR.
        private final int[] losses = new int[MOST_ACTS];
        private final int[] seenIsles = new int[MOST_SEEN];
        private final int[] seenNames = new int[MOST_SEEN];

        void clear() {
            acts = 0;
            seen = 0;
        }

        void copy(Records from) {
            acts = from.acts;
            seen = from.seen;
            System.arraycopy(from.kinds, 0, kinds, 0, MOST_ACTS);
            System.arraycopy(from.ones, 0, ones, 0, MOST_ACTS);
            System.arraycopy(from.others, 0, others, 0, MOST_ACTS);
            System.arraycopy(from.losses, 0, losses, 0, MOST_ACTS);
            System.arraycopy(from.seenIsles, 0, seenIsles, 0, MOST_SEEN);
            System.arraycopy(from.seenNames, 0, seenNames, 0, MOST_SEEN);
        }

        void add(int kind, int one, int other, int loss) {
            if (acts >= MOST_ACTS) {
                dropOldest();
            }
            kinds[acts] = kind;
            ones[acts] = one;
            others[acts] = other;
            losses[acts] = loss;
            acts++;
        }

        private void dropOldest() {
            acts = MOST_ACTS - 1;
            System.arraycopy(kinds, 1, kinds, 0, acts);
            System.arraycopy(ones, 1, ones, 0, acts);
            System.arraycopy(others, 1, others, 0, acts);
            System.arraycopy(losses, 1, losses, 0, acts);
        }

        void undoLast(World world) {
            if (acts <= 0) {
                return;
            }
            acts--;
            if (kinds[acts] == SWAP) {
                world.exchange(ones[acts], others[acts]);
            } else if (kinds[acts] == YEAR) {
                world.takeYearBack(losses[acts]);
            } else {
                world.setDebt(ones[acts], others[acts], losses[acts]);
            }
        }

        void addSeen(int isle, int name) {
            if (seen < MOST_SEEN) {
                seenIsles[seen] = isle;
                seenNames[seen] = name;
                seen++;
            }
        }

        boolean fit(int[] names) {
            for (int i = 0; i < seen; i++) {
                if (names[seenIsles[i]] != seenNames[i]) {
                    return false;
                }
            }
            return true;
        }
    }

    /** Who prefers what, and what comes of it. */
    private static final class Likes {
        private static final int OWN = MOST_ISLES + 1;
        private static final int LEAST = MOST_ISLES + 2;

        private final Sea sea;
        private final World world;
        final int[] gets = new int[MOST_ISLES];
        int longest = 0;
        private final int[] aims = new int[MOST_ISLES];
        // By a set of ISLES: where ways through just these can end that begin at the least of them.
        private final int[] ends = new int[1 << MOST_ISLES];

        Likes(Sea sea, World world) {
            this.sea = sea;
            this.world = world;
        }

        private int rank(int isle, int name) {
            int wish = sea.wishes[isle * MOST_ISLES + name];
            if (wish != 0) {
                return wish;
            }
            return world.names[isle] == name ? OWN : LEAST;
        }

        boolean likesMore(int isle, int name, int other) {
            return rank(isle, name) < rank(isle, other);
        }

        private boolean wants(int isle, int other) {
            return likesMore(isle, world.names[other], world.names[isle]);
        }

        int gladCouples() {
            int couples = 0;
            for (int one = 0; one < sea.isles; one++) {
                for (int other = one + 1; other < sea.isles; other++) {
                    couples += wants(one, other) && wants(other, one) ? 1 : 0;
                }
            }
            return couples;
        }

        int firstGladCouple() {
            for (int one = 0; one < sea.isles; one++) {
                for (int other = one + 1; other < sea.isles; other++) {
                    if (wants(one, other) && wants(other, one)) {
                        return 10 * one + other;
                    }
                }
            }
            return NONE;
        }

        void goRound() {
            longest = 0;
            int left = (1 << sea.isles) - 1;
            for (int i = 0; i < MOST_ISLES && left != 0; i++) {
                aim(left);
                left = closeRounds(left);
            }
        }

        private void aim(int left) {
            for (int isle = 0; isle < sea.isles; isle++) {
                aims[isle] = isle;
                for (int other = 0; other < sea.isles; other++) {
                    boolean there = (left >> other & 1) == 1;
                    if (there && likesMore(isle, world.names[other], world.names[aims[isle]])) {
                        aims[isle] = other;
                    }
                }
            }
        }

        private int closeRounds(int left) {
            int rest = left;
            for (int isle = 0; isle < sea.isles; isle++) {
                int length = (left >> isle & 1) == 1 ? roundLength(isle) : 0;
                if (length > 0) {
                    gets[isle] = world.names[aims[isle]];
                    longest = Math.max(longest, length);
                    rest &= ~(1 << isle);
                }
            }
            return rest;
        }

        /** 0, if it doesn't come back to itself. */
        private int roundLength(int isle) {
            int at = isle;
            for (int length = 1; length <= MOST_ISLES; length++) {
                at = aims[at];
                if (at == isle) {
                    return length;
                }
            }
            return 0;
        }

        /** In a smallest set all change, and in one round: so it is a shortest round of ISLES who want the next one's. */
        int smallestLeaving() {
            int sets = 1 << sea.isles;
            Arrays.fill(ends, 0);
            for (int isle = 0; isle < sea.isles; isle++) {
                ends[1 << isle] = 1 << isle;
            }
            int smallest = NONE;
            for (int set = 1; set < sets; set++) {
                boolean smaller = smallest == NONE || Integer.bitCount(set) < Integer.bitCount(smallest);
                if (growWays(set) && smaller) {
                    smallest = set;
                }
            }
            return smallest;
        }

        /** Lengthens the ways through a set by one ISLE; whether one of them comes back to where it began. */
        private boolean growWays(int set) {
            int least = Integer.bitCount((set & -set) - 1);
            boolean back = false;
            for (int end = least; end < sea.isles; end++) {
                if ((ends[set] >> end & 1) == 0) {
                    continue;
                }
                back = back || wants(end, least);
                for (int next = least + 1; next < sea.isles; next++) {
                    if ((set >> next & 1) == 0 && wants(end, next)) {
                        ends[set | 1 << next] |= 1 << next;
                    }
                }
            }
            return back;
        }
    }

    /** Who may swap having which NAMES, by debts and the YEAR as they are now: each asked of the LAW once. */
    private static final class Permits {
        private static final int YES = 1;
        private static final int NO = 2;

        private final World world;
        private final byte[] known = new byte[MOST_ISLES * MOST_ISLES * MOST_ISLES * MOST_ISLES];
        private int madeAt = NONE;

        Permits(World world) {
            this.world = world;
        }

        void renew(int changes) {
            if (madeAt != changes) {
                madeAt = changes;
                Arrays.fill(known, (byte) 0);
            }
        }

        boolean allow(int one, int other, int mine, int yours) {
            int at = ((one * MOST_ISLES + other) * MOST_ISLES + mine) * MOST_ISLES + yours;
            if (known[at] == 0) {
                known[at] = (byte) (world.letsWith(one, other, mine, yours) ? YES : NO);
            }
            return known[at] == YES;
        }
    }

    /** ARRANGEMENTS, and the fewest SWAPS from now to each of them. */
    private static final class Routes {
        private final World world;
        private final Permits permits;
        private final int[] queue = new int[ROUTES];
        private int queued = 0;
        // By an ARRANGEMENT's number among all of them.
        private final int[] fewest = new int[ROUTES];
        private final int[] firsts = new int[ROUTES];
        private int madeAt = NONE;

        Routes(World world, Permits permits) {
            this.world = world;
            this.permits = permits;
        }

        private static int figure(int arrangement, int isle) {
            return arrangement >> 3 * isle & 7;
        }

        boolean isArrangement(int arrangement) {
            int isles = world.sea.isles;
            if (arrangement < 0 || arrangement >> 3 * isles != 0) {
                return false;
            }
            int used = 0;
            for (int isle = 0; isle < isles; isle++) {
                used |= 1 << figure(arrangement, isle);
            }
            return used == (1 << isles) - 1;
        }

        private int arrangementNow() {
            int arrangement = 0;
            for (int isle = 0; isle < world.sea.isles; isle++) {
                arrangement |= world.names[isle] << 3 * isle;
            }
            return arrangement;
        }

        /** Its number among all, as they come in the order of their rows. */
        private int number(int arrangement) {
            int isles = world.sea.isles;
            int number = 0;
            int used = 0;
            for (int isle = 0; isle < isles; isle++) {
                int bit = 1 << figure(arrangement, isle);
                number = number * (isles - isle) + Integer.bitCount(~used & (bit - 1));
                used |= bit;
            }
            return number >= 0 && number < ROUTES ? number : 0;
        }

        /** Rows of swaps are grown in their order, so who comes to an ARRANGEMENT first has come by the first row. */
        void find(int changes) {
            if (madeAt == changes || world.sea.isles > MOST_ROUTED) {
                return;
            }
            madeAt = changes;
            permits.renew(changes);
            Arrays.fill(fewest, NONE);
            queued = 0;
            reach(arrangementNow(), 0, NONE);
            for (int i = 0; i < ROUTES && i < queued; i++) {
                spread(queue[i]);
            }
        }

        private void spread(int from) {
            int number = number(from);
            for (int one = 0; one < world.sea.isles; one++) {
                int mine = figure(from, one);
                for (int other = one + 1; other < world.sea.isles; other++) {
                    int yours = figure(from, other);
                    if (permits.allow(one, other, mine, yours)) {
                        int change = mine ^ yours;
                        int first = fewest[number] == 0 ? 10 * one + other : firsts[number];
                        reach(from ^ change << 3 * one ^ change << 3 * other, fewest[number] + 1, first);
                    }
                }
            }
        }

        private void reach(int arrangement, int swaps, int first) {
            int number = number(arrangement);
            if (fewest[number] == NONE && queued < ROUTES) {
                fewest[number] = swaps;
                firsts[number] = first;
                queue[queued] = arrangement;
                queued++;
            }
        }

        int fewest(int arrangement) {
            return fewest[number(arrangement)];
        }

        int firstSwap(int arrangement) {
            int number = number(arrangement);
            return fewest[number] == NONE ? NONE : firsts[number];
        }

        /** Each round of ISLES that need each other's NAMES saves one swap. */
        int fewestOfItself(int arrangement) {
            int gone = 0;
            int rounds = 0;
            for (int isle = 0; isle < world.sea.isles; isle++) {
                if ((gone >> isle & 1) == 0) {
                    rounds++;
                }
                int at = isle;
                for (int i = 0; i < MOST_ISLES && at != NONE && (gone >> at & 1) == 0; i++) {
                    gone |= 1 << at;
                    at = world.holder(figure(arrangement, at));
                }
            }
            return world.sea.isles - rounds;
        }
    }

    /** SALES that fit what was seen. */
    private static final class Rows {
        private final World world;
        private final Permits permits;
        private final Records records;
        private final int[] names = new int[MOST_ISLES];
        private final int[] row = new int[MOST_SALES];
        private final int[] first = new int[MOST_SALES];
        // By ISLE and NAME: the rows by which it has that.
        private final int[] tallies = new int[MOST_ISLES * MOST_ISLES];
        int found = 0;
        private int length = 0;
        private boolean tallied = false;
        private int madeAt = NONE;

        Rows(World world, Permits permits, Records records) {
            this.world = world;
            this.permits = permits;
            this.records = records;
        }

        void find(int k, boolean tallying, int changes) {
            if (madeAt == changes && length == k && (tallied || !tallying)) {
                return;
            }
            madeAt = changes;
            length = k;
            tallied = tallying;
            found = 0;
            permits.renew(changes);
            Arrays.fill(tallies, 0);
            System.arraycopy(world.names, 0, names, 0, MOST_ISLES);
            grow(0);
        }

        private void grow(int done) {
            if (done >= length || done >= MOST_SALES) {
                take();
                return;
            }
            for (int one = 0; one < world.sea.isles; one++) {
                for (int other = one + 1; other < world.sea.isles; other++) {
                    if (permits.allow(one, other, names[one], names[other])) {
                        row[done] = 10 * one + other;
                        exchange(one, other);
                        grow(done + 1);
                        exchange(one, other);
                    }
                }
            }
        }

        private void exchange(int one, int other) {
            int mine = names[one];
            names[one] = names[other];
            names[other] = mine;
        }

        private void take() {
            if (!records.fit(names)) {
                return;
            }
            if (found == 0) {
                System.arraycopy(row, 0, first, 0, MOST_SALES);
            }
            found++;
            if (tallied) {
                for (int isle = 0; isle < world.sea.isles; isle++) {
                    tallies[isle * MOST_ISLES + names[isle]]++;
                }
            }
        }

        int ofFirst(int i) {
            return found > 0 && i >= 0 && i < length ? first[i] : NONE;
        }

        int lookNext() {
            int next = NONE;
            int fewest = 0;
            for (int isle = 0; isle < world.sea.isles && found > 0; isle++) {
                int most = 0;
                for (int name = 0; name < world.sea.isles; name++) {
                    most = Math.max(most, tallies[isle * MOST_ISLES + name]);
                }
                if (next == NONE || most < fewest) {
                    next = isle;
                    fewest = most;
                }
            }
            return next;
        }
    }
}
