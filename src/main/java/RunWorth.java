import java.util.NoSuchElementException;

/** What runs are worth: a ball game with bases and outs, batters by chances, a thrower who tires. */
public final class RunWorth {
    /** There is none; refused. */
    public static final int NONE = -1;

    private static final int NOTHING = 0;
    private static final int NO_SUCH = 1;
    private static final int WRONG_NUMBER = 2;
    private static final int FAULTY = 4;
    private static final int NOT_SO = 5;

    private static final int TAPE_BYTES = 500;
    private static final int FED = 20;
    private static final int MOST_BATTERS = 9;
    private static final int MOST_ACTS = 10;
    private static final int MOST_EXCHANGES = 60;
    private static final int MOST_UP = 100;
    private static final int DEEPEST = 5;
    private static final int DEEPEST_BEST = 3;
    private static final int LAST_SEED = 2147483646;

    private static final int OUT = 0;
    private static final int WALK = 1;
    private static final int SINGLE = 2;
    private static final int DOUBLE = 3;
    private static final int TRIPLE = 4;
    private static final int HOMER = 5;
    private static final int BUNTED = 6;
    private static final int STOLEN = 7;
    private static final int CAUGHT = 8;
    private static final int HITS = 6;
    private static final int EVENTS = 9;

    private static final int HIT = 0;
    private static final int BUNT = 1;
    private static final int STEAL = 2;
    private static final int WAYS = 3;

    private static final int RULE_SINGLE = 0;
    private static final int RULE_DOUBLE = 1;
    private static final int RULE_FLY = 2;
    private static final int RULE_STEAL = 3;
    private static final int RULE_TIRE = 4;
    private static final int RULES = 5;

    private static final int TWENTY = 20;
    private static final int WISE_SCALE = TWENTY * TWENTY;

    /** A state is one number: 8 times the outs, and the bases; so the third out is the number OVER. */
    private static final int STATES = 24;
    private static final int OVER = 24;

    private final Tape tape = new Tape();
    private final int[] names = new int[MOST_BATTERS];
    private final Game now = new Game();
    private final Game paper = new Game();
    private final Past past = new Past();
    private final Means means = new Means();
    private final Orders orders = new Orders();
    private final Player player = new Player();
    private int latestTrouble;
    private int latestFault;
    private int faultPlace;

    public RunWorth() {
    }

    // ---- texts

    public int feed(int a, int b, int c, int d, int e) {
        if (tape.size + FED > TAPE_BYTES) {
            return NONE;
        }
        tape.put(a);
        tape.put(b);
        tape.put(c);
        tape.put(d);
        tape.put(e);
        return tape.size;
    }

    public int text(int n) {
        if (refused(within(n, 0, tape.size) ? NOTHING : WRONG_NUMBER)) {
            return NONE;
        }
        latestFault = tape.read(n);
        faultPlace = tape.place;
        tape.size = 0;
        if (refused(latestFault == 0 ? NOTHING : FAULTY)) {
            return NONE;
        }
        System.arraycopy(tape.names, 0, names, 0, MOST_BATTERS);
        now.openWith(tape);
        past.forget();
        fitMoves();
        return now.count;
    }

    public int fault() {
        return latestFault;
    }

    public int where() {
        return latestTrouble == FAULTY ? faultPlace : NONE;
    }

    // ---- what is told

    public int about(int what) {
        if (refused(hasText() && within(what, 0, 8) ? NOTHING : NO_SUCH)) {
            return NONE;
        }
        switch (what) {
            case 0: return now.count;
            case 1: return now.inning;
            case 2: return basesOf(now.state);
            case 3: return outsOf(now.state);
            case 4: return now.score;
            case 5: return now.next;
            case 6: return now.faced;
            case 7: return now.rows;
            default: return past.count;
        }
    }

    public int rule(int what) {
        if (refused(hasText() && within(what, 0, RULES - 1) ? NOTHING : NO_SUCH)) {
            return NONE;
        }
        return now.ruled(what);
    }

    public int batter(int b, int what) {
        if (refused(now.hasBatter(b) && within(what, 0, 8) ? NOTHING : NO_SUCH)) {
            return NONE;
        }
        switch (what) {
            case 6: return now.placeOf(b);
            case 7: return now.rowsOf(b);
            case 8: return now.runsOf(b);
            default: return now.chanceOf(b, what);
        }
    }

    public int place(int i) {
        return refused(now.hasPlace(i) ? NOTHING : NO_SUCH) ? NONE : now.batterAt(i);
    }

    public int coming(int i) {
        return refused(hasText() && i >= 0 ? NOTHING : NO_SUCH) ? NONE : now.batterBehind(i);
    }

    public int chance(int b, int e, int f) {
        if (refused(!now.hasBatter(b) || !isHit(e) ? NO_SUCH : within(f, 0, 999) ? NOTHING : WRONG_NUMBER)) {
            return NONE;
        }
        return now.tiredChance(b, e, f);
    }

    public int after(int bases, int outs, int e, int what) {
        if (refused(troubleOfAfter(bases, outs, e, what))) {
            return NONE;
        }
        int state = stateOf(bases, outs);
        switch (what) {
            case 0: return basesOf(means.moves.behind(e, state));
            case 1: return outsOf(means.moves.behind(e, state));
            default: return means.moves.runsBy(e, state);
        }
    }

    private int troubleOfAfter(int bases, int outs, int e, int what) {
        if (!hasText() || !within(e, 0, EVENTS - 1) || !within(what, 0, 2)) {
            return NO_SUCH;
        }
        if (!isState(bases, outs)) {
            return WRONG_NUMBER;
        }
        return means.moves.can(e, stateOf(bases, outs)) ? NOTHING : NOT_SO;
    }

    // ---- what is to come

    public long plain(int bases, int outs, int k, int what) {
        if (refused(troubleAhead(isPart(what), bases, outs, k))) {
            return NONE;
        }
        long above = means.plainMean(now, now.placeOf(now.next), now.faced, k, stateOf(bases, outs));
        return part(above, means.unit(k), what);
    }

    public long any(int bases, int outs, int k, int what) {
        if (refused(troubleAhead(isPart(what), bases, outs, k))) {
            return NONE;
        }
        long above = means.oddsOfRun(now, now.placeOf(now.next), now.faced, k, stateOf(bases, outs));
        return part(above, means.unit(k), what);
    }

    public long wise(int bases, int outs, int k, int what) {
        if (refused(troubleAhead(isPart(what), bases, outs, k))) {
            return NONE;
        }
        means.lookAhead(now, k, now.ruled(RULE_STEAL));
        int state = stateOf(bases, outs);
        return part(means.meanBy(means.choiceIn(state), state), means.unit(k), what);
    }

    public int choice(int bases, int outs, int k) {
        if (refused(troubleAhead(true, bases, outs, k))) {
            return NONE;
        }
        means.lookAhead(now, k, now.ruled(RULE_STEAL));
        return means.choiceIn(stateOf(bases, outs));
    }

    public long chosen(int bases, int outs, int k, int how, int what) {
        if (refused(troubleOfWay(isPart(what), bases, outs, k, how))) {
            return NONE;
        }
        means.lookAhead(now, k, now.ruled(RULE_STEAL));
        return part(means.meanBy(how, stateOf(bases, outs)), means.unit(k), what);
    }

    public int breaksEven(int bases, int outs, int k) {
        if (refused(troubleOfWay(true, bases, outs, k, STEAL))) {
            return NONE;
        }
        for (int steal = 0; steal <= TWENTY; steal++) {
            means.lookAhead(now, k, steal);
            if (means.choiceIn(stateOf(bases, outs)) == STEAL) {
                return steal;
            }
        }
        return -2;
    }

    public long table(int bases, int outs, int k, int what) {
        if (refused(troubleAhead(isPart(what), bases, outs, k))) {
            return NONE;
        }
        means.layTable(now, k);
        return part(means.tableAt(k, stateOf(bases, outs)), means.unit(k), what);
    }

    private int troubleAhead(boolean there, int bases, int outs, int k) {
        if (!hasText() || !there) {
            return NO_SUCH;
        }
        return isState(bases, outs) && isDepth(k) ? NOTHING : WRONG_NUMBER;
    }

    private int troubleOfWay(boolean there, int bases, int outs, int k, int how) {
        int trouble = troubleAhead(there && within(how, 0, WAYS - 1), bases, outs, k);
        if (trouble != NOTHING) {
            return trouble;
        }
        return means.moves.canChoose(how, stateOf(bases, outs)) ? NOTHING : NOT_SO;
    }

    // ---- the order

    public long worth(int k, int what) {
        if (refused(troubleOfDepth(isPart(what), k, DEEPEST))) {
            return NONE;
        }
        return part(orders.worthNow(means, now, k), means.unit(k), what);
    }

    public long best(int k, int what) {
        if (refused(troubleOfDepth(isPart(what), k, DEEPEST_BEST))) {
            return NONE;
        }
        orders.seek(means, now, k);
        return part(orders.foundWorth, means.unit(k), what);
    }

    public int bestAt(int k, int i) {
        if (refused(troubleOfDepth(now.hasPlace(i), k, DEEPEST_BEST))) {
            return NONE;
        }
        orders.seek(means, now, k);
        return orders.foundAt(i);
    }

    public int exchanged(int i, int j, int k) {
        if (refused(troubleOfDepth(now.hasPlace(i) && now.hasPlace(j), k, DEEPEST))) {
            return NONE;
        }
        long gain = orders.worthExchanged(means, now, i, j, k) - orders.worthNow(means, now, k);
        return gain > 0 ? 1 : gain == 0 ? 0 : -2;
    }

    private int troubleOfDepth(boolean there, int k, int deepest) {
        if (!hasText() || !there) {
            return NO_SUCH;
        }
        return within(k, 1, deepest) ? NOTHING : WRONG_NUMBER;
    }

    // ---- the game

    public int log(int i, int what) {
        if (refused(now.hasRow(i) && within(what, 0, 5) ? NOTHING : NO_SUCH)) {
            return NONE;
        }
        switch (what) {
            case 0: return now.noted(i, Game.WHO);
            case 1: return now.noted(i, Game.WHAT);
            case 2: return now.noted(i, Game.RUNS);
            case 3: return now.noted(i, Game.INNING);
            case 4: return basesOf(now.noted(i, Game.AHEAD));
            default: return outsOf(now.noted(i, Game.AHEAD));
        }
    }

    public long added(int i, int k, int what) {
        if (refused(troubleOfDepth(now.hasRow(i) && isPart(what), k, DEEPEST))) {
            return NONE;
        }
        means.layTable(now, k);
        return part(means.addedBy(now, i, k), means.unit(k), what);
    }

    public long credit(int b, int k, int what) {
        if (refused(troubleOfDepth(now.hasBatter(b) && isPart(what), k, DEEPEST))) {
            return NONE;
        }
        return part(addedTogether(b, k), means.unit(k), what);
    }

    public long all(int k, int what) {
        if (refused(troubleOfDepth(isPart(what), k, DEEPEST))) {
            return NONE;
        }
        return part(addedTogether(NONE, k), means.unit(k), what);
    }

    /** By the rows of one batter, or of all of them if the batter is NONE. */
    private long addedTogether(int b, int k) {
        means.layTable(now, k);
        long sum = 0;
        for (int i = 0; i < now.rows; i++) {
            if (b == NONE || now.noted(i, Game.WHO) == b) {
                sum += means.addedBy(now, i, k);
            }
        }
        return sum;
    }

    public int innings(int seed, int n, boolean wise, int what) {
        if (refused(troubleOfPlay(within(what, 0, 2), seed, within(n, 1, 9)))) {
            return NONE;
        }
        paper.copyFrom(now);
        paper.beginAnew();
        player.seedWith(seed);
        int up = 0;
        int most = 0;
        int runsOfInning = 0;
        while (up < MOST_UP && paper.inning <= n) {
            int inning = paper.inning;
            runsOfInning += player.playOne(means, paper, wise);
            up++;
            most = Math.max(most, runsOfInning);
            if (paper.inning != inning) {
                runsOfInning = 0;
            }
        }
        return what == 0 ? paper.score : what == 1 ? up : most;
    }

    private int troubleOfPlay(boolean there, int seed, boolean numberFits) {
        if (!hasText() || !there) {
            return NO_SUCH;
        }
        return within(seed, 1, LAST_SEED) && numberFits ? NOTHING : WRONG_NUMBER;
    }

    // ---- acts

    public int event(int e) {
        if (refused(troubleOfEvent(e))) {
            return NONE;
        }
        past.keep(now);
        return now.happen(means.moves, e);
    }

    private int troubleOfEvent(int e) {
        if (!hasText() || !within(e, 0, EVENTS - 1)) {
            return NO_SUCH;
        }
        return means.moves.can(e, now.state) ? NOTHING : NOT_SO;
    }

    public int play(int seed, int n, boolean wise) {
        if (refused(troubleOfPlay(true, seed, within(n, 1, 20)))) {
            return NONE;
        }
        past.keep(now);
        player.seedWith(seed);
        int runs = 0;
        for (int i = 0; i < n; i++) {
            runs += player.playOne(means, now, wise);
        }
        return runs;
    }

    public int relieve() {
        if (refused(hasText() ? NOTHING : NO_SUCH)) {
            return NONE;
        }
        past.keep(now);
        int was = now.faced;
        now.faced = 0;
        return was;
    }

    public int begin() {
        if (refused(hasText() ? NOTHING : NO_SUCH)) {
            return NONE;
        }
        past.keep(now);
        int was = now.score;
        now.beginAnew();
        return was;
    }

    public int swap(int i, int j) {
        if (refused(!now.hasPlace(i) || !now.hasPlace(j) ? NO_SUCH : i == j ? NOT_SO : NOTHING)) {
            return NONE;
        }
        past.keep(now);
        now.exchange(i, j);
        return now.batterAt(i);
    }

    public int lay(int k) {
        if (refused(troubleOfDepth(true, k, DEEPEST_BEST))) {
            return NONE;
        }
        past.keep(now);
        orders.seek(means, now, k);
        int others = 0;
        for (int i = 0; i < now.count; i++) {
            if (now.batterAt(i) != orders.foundAt(i)) {
                others++;
            }
            now.putAt(i, orders.foundAt(i));
        }
        return others;
    }

    public int better(int k) {
        if (refused(troubleOfDepth(true, k, DEEPEST))) {
            return NONE;
        }
        past.keep(now);
        int times = 0;
        while (times < MOST_EXCHANGES && orders.improve(means, now, k)) {
            times++;
        }
        return times;
    }

    public int shift(int b, int from, int to, int n) {
        if (refused(troubleOfShift(b, from, to, n))) {
            return NONE;
        }
        past.keep(now);
        now.putChance(b, from, now.chanceOf(b, from) - n);
        now.putChance(b, to, now.chanceOf(b, to) + n);
        return now.chanceOf(b, to);
    }

    private int troubleOfShift(int b, int from, int to, int n) {
        if (!now.hasBatter(b) || !isHit(from) || !isHit(to)) {
            return NO_SUCH;
        }
        if (!within(n, 1, TWENTY)) {
            return WRONG_NUMBER;
        }
        return from == to || now.chanceOf(b, from) < n ? NOT_SO : NOTHING;
    }

    public int become(int what, int v) {
        if (refused(troubleOfBecome(what, v))) {
            return NONE;
        }
        past.keep(now);
        int was = now.ruled(what);
        now.putRule(what, v);
        fitMoves();
        return was;
    }

    private int troubleOfBecome(int what, int v) {
        if (!hasText() || !within(what, 0, RULES - 1)) {
            return NO_SUCH;
        }
        return isRule(what, v) ? NOTHING : WRONG_NUMBER;
    }

    public int undo() {
        if (refused(!hasText() ? NO_SUCH : past.count > 0 ? NOTHING : NOT_SO)) {
            return NONE;
        }
        past.bringBack(now);
        fitMoves();
        return past.count;
    }

    // ---- names

    public int named(int n) throws NoSuchElementException {
        int name = within(n, 0, tape.size) ? tape.onlyWord(n) : NONE;
        for (int b = 0; b < now.count && b < MOST_BATTERS; b++) {
            if (names[b] == name) {
                return b;
            }
        }
        throw new NoSuchElementException("no batter of that name");
    }

    public int size() {
        return tape.size;
    }

    public int trouble() {
        return latestTrouble;
    }

    // ---- what the calls share

    private boolean refused(int trouble) {
        latestTrouble = trouble;
        return trouble != NOTHING;
    }

    private boolean hasText() {
        return now.count > 0;
    }

    private void fitMoves() {
        means.moves.fit(now.ruled(RULE_SINGLE), now.ruled(RULE_DOUBLE), now.ruled(RULE_FLY));
    }

    private static boolean within(int number, int least, int most) {
        return number >= least && number <= most;
    }

    private static boolean isHit(int e) {
        return within(e, OUT, HOMER);
    }

    private static boolean isPart(int what) {
        return within(what, 0, 1);
    }

    private static boolean isDepth(int k) {
        return within(k, 1, DEEPEST);
    }

    private static boolean isState(int bases, int outs) {
        return within(bases, 0, 7) && within(outs, 0, 2);
    }

    private static int stateOf(int bases, int outs) {
        return outs * 8 + bases;
    }

    private static int basesOf(int state) {
        return state & 7;
    }

    private static int outsOf(int state) {
        return state >> 3;
    }

    private static boolean isRule(int what, int v) {
        switch (what) {
            case RULE_SINGLE: return within(v, 1, 2);
            case RULE_DOUBLE: return within(v, 2, 3);
            case RULE_FLY: return within(v, 0, 1);
            case RULE_STEAL: return within(v, 0, TWENTY);
            case RULE_TIRE: return within(v, 1, 99);
            default: return false;
        }
    }

    /** Above (what 0) or below (1) of a fraction in lowest terms. */
    private static long part(long above, long below, int what) {
        long common = commonDivisor(above < 0 ? -above : above, below);
        return common == 0 ? NONE : (what == 0 ? above : below) / common;
    }

    private static long commonDivisor(long a, long b) {
        // a hundred steps are more than any two longs need
        for (int step = 0; step < 100 && b != 0; step++) {
            long rest = a % b;
            a = b;
            b = rest;
        }
        return a;
    }

    /** The tape, which reads itself; what a text says stands here until the next one is read. */
    private static final class Tape {
        private static final int WORD = 0;
        private static final int WHOLE = 1;
        private static final int SEMICOLON = 2;
        private static final int END = 3;
        private static final int NO_TOKEN = 4;

        private static final int FORM = 1;
        private static final int BOUNDS = 2;
        private static final int AGAIN = 3;
        private static final int TOO_MANY = 4;
        private static final int NO_BATTER = 5;

        private static final int LONGEST_WORD = 6;
        private static final int LONGEST_WHOLE = 2;
        private static final int BATTER_KEY = RULES;

        final int[] names = new int[MOST_BATTERS];
        final int[] chances = new int[MOST_BATTERS * HITS];
        final int[] rules = new int[RULES];
        int size;
        int count;
        int place;
        private final byte[] bytes = new byte[TAPE_BYTES];
        private final int[] keys = {
            coded("single"), coded("double"), coded("fly"), coded("steal"), coded("tire"), coded("batter")
        };
        private final boolean[] toldRules = new boolean[RULES];
        private int length;
        private int at;
        private int kind;
        private int value;
        private int fault;

        void put(int four) {
            for (int shift = 24; shift >= 0 && size < TAPE_BYTES; shift -= 8) {
                bytes[size] = (byte) (four >> shift);
                size++;
            }
        }

        /** The fault of the first n bytes, at place; 0 without one. */
        int read(int n) {
            startAt(n);
            clearSheet();
            boolean more = true;
            for (int line = 0; more && line <= n; line++) {
                more = readLine() && goesOn();
            }
            if (fault == 0 && count == 0) {
                blame(NO_BATTER);
            }
            return fault;
        }

        /** The word that is the only token in the first n bytes, coded; NONE without one. */
        int onlyWord(int n) {
            startAt(n);
            step();
            int word = kind == WORD ? value : NONE;
            step();
            return kind == END ? word : NONE;
        }

        private void startAt(int n) {
            length = Math.max(0, Math.min(n, size));
            at = 0;
            fault = 0;
        }

        private void clearSheet() {
            count = 0;
            for (int r = 0; r < RULES; r++) {
                toldRules[r] = false;
            }
            rules[RULE_SINGLE] = 1;
            rules[RULE_DOUBLE] = 2;
            rules[RULE_FLY] = 0;
            rules[RULE_STEAL] = 14;
            rules[RULE_TIRE] = 30;
        }

        private boolean readLine() {
            step();
            int key = kind == WORD ? keyOf(value) : NONE;
            if (key == BATTER_KEY) {
                return readName() && readChances();
            }
            return key >= 0 && key < RULES ? readRule(key) : blame(FORM);
        }

        private boolean goesOn() {
            step();
            if (kind == END) {
                return false;
            }
            return kind == SEMICOLON || blame(FORM);
        }

        private boolean readName() {
            if (count >= MOST_BATTERS) {
                return blame(TOO_MANY);
            }
            step();
            if (kind != WORD || keyOf(value) != NONE) {
                return blame(FORM);
            }
            if (isName(value)) {
                return blame(AGAIN);
            }
            names[count] = value;
            return true;
        }

        private boolean readChances() {
            int sum = 0;
            for (int e = 0; e < HITS; e++) {
                step();
                if (kind != WHOLE) {
                    return blame(FORM);
                }
                sum += value;
                if (value > TWENTY || e == HOMER && sum != TWENTY) {
                    return blame(BOUNDS);
                }
                chances[count * HITS + e] = value;
            }
            count++;
            return true;
        }

        private boolean readRule(int what) {
            if (toldRules[what]) {
                return blame(AGAIN);
            }
            toldRules[what] = true;
            step();
            if (kind != WHOLE) {
                return blame(FORM);
            }
            if (!isRule(what, value)) {
                return blame(BOUNDS);
            }
            rules[what] = value;
            return true;
        }

        private boolean blame(int why) {
            fault = why;
            return false;
        }

        private int keyOf(int word) {
            for (int i = 0; i < keys.length; i++) {
                if (keys[i] == word) {
                    return i;
                }
            }
            return NONE;
        }

        private boolean isName(int word) {
            for (int b = 0; b < count && b < MOST_BATTERS; b++) {
                if (names[b] == word) {
                    return true;
                }
            }
            return false;
        }

        /** On to the next token: its place, its kind, its value. */
        private void step() {
            while (at < length && bytes[at] == ' ') {
                at++;
            }
            place = at;
            value = 0;
            if (at >= length) {
                kind = END;
            } else if (isLetter(bytes[at])) {
                stepOverLetters();
            } else if (isDigit(bytes[at])) {
                stepOverDigits();
            } else {
                kind = bytes[at] == ';' ? SEMICOLON : NO_TOKEN;
                at++;
            }
        }

        private void stepOverLetters() {
            while (at < length && isLetter(bytes[at])) {
                value = withLetter(value, bytes[at]);
                at++;
            }
            kind = at - place <= LONGEST_WORD ? WORD : NO_TOKEN;
        }

        private void stepOverDigits() {
            while (at < length && isDigit(bytes[at])) {
                value = value * 10 + (bytes[at] - '0');
                at++;
            }
            kind = at - place <= LONGEST_WHOLE ? WHOLE : NO_TOKEN;
        }

        private static boolean isLetter(int sign) {
            return sign >= 'a' && sign <= 'z';
        }

        private static boolean isDigit(int sign) {
            return sign >= '0' && sign <= '9';
        }

        /** A word is coded as one number: six letters by 27 fit into an int, no two words alike. */
        private static int coded(String word) {
            int code = 0;
            for (int i = 0; i < word.length(); i++) {
                code = withLetter(code, word.charAt(i));
            }
            return code;
        }

        private static int withLetter(int code, int letter) {
            return code * 27 + (letter - 'a' + 1);
        }
    }

    /** The batters, the rules, the order, the game and its log: all that an act can change. */
    private static final class Game {
        static final int WHO = 0;
        static final int WHAT = 1;
        static final int RUNS = 2;
        static final int INNING = 3;
        static final int AHEAD = 4;
        static final int BEHIND = 5;
        private static final int COLUMNS = 6;
        private static final int MOST_ROWS = 40;

        int count;
        int inning;
        int state;
        int score;
        int next;
        int faced;
        int rows;
        private int newest;
        private final int[] chances = new int[MOST_BATTERS * HITS];
        private final int[] rules = new int[RULES];
        private final int[] order = new int[MOST_BATTERS];
        private final int[] notes = new int[MOST_ROWS * COLUMNS];

        void openWith(Tape sheet) {
            count = sheet.count;
            System.arraycopy(sheet.chances, 0, chances, 0, MOST_BATTERS * HITS);
            System.arraycopy(sheet.rules, 0, rules, 0, RULES);
            for (int i = 0; i < MOST_BATTERS; i++) {
                order[i] = i;
            }
            beginAnew();
        }

        void beginAnew() {
            inning = 1;
            state = 0;
            score = 0;
            next = order[0];
            faced = 0;
            rows = 0;
            newest = 0;
        }

        void copyFrom(Game other) {
            count = other.count;
            inning = other.inning;
            state = other.state;
            score = other.score;
            next = other.next;
            faced = other.faced;
            rows = other.rows;
            newest = other.newest;
            System.arraycopy(other.chances, 0, chances, 0, MOST_BATTERS * HITS);
            System.arraycopy(other.rules, 0, rules, 0, RULES);
            System.arraycopy(other.order, 0, order, 0, MOST_BATTERS);
            System.arraycopy(other.notes, 0, notes, 0, MOST_ROWS * COLUMNS);
        }

        boolean hasBatter(int b) {
            return b >= 0 && b < count;
        }

        boolean hasPlace(int i) {
            return i >= 0 && i < count;
        }

        boolean hasRow(int i) {
            return i >= 0 && i < rows;
        }

        int ruled(int what) {
            return within(what, 0, RULES - 1) ? rules[what] : NONE;
        }

        void putRule(int what, int v) {
            if (within(what, 0, RULES - 1)) {
                rules[what] = v;
            }
        }

        int batterAt(int i) {
            return i >= 0 && i < MOST_BATTERS ? order[i] : NONE;
        }

        /** At a place that may lie beyond the last one: the order is round. */
        int batterRound(int i) {
            return count > 0 ? batterAt(i % count) : NONE;
        }

        void putAt(int i, int b) {
            if (within(i, 0, MOST_BATTERS - 1)) {
                order[i] = b;
            }
        }

        void exchange(int i, int j) {
            int b = batterAt(i);
            putAt(i, batterAt(j));
            putAt(j, b);
        }

        int placeOf(int b) {
            for (int i = 0; i < count && i < MOST_BATTERS; i++) {
                if (order[i] == b) {
                    return i;
                }
            }
            return 0;
        }

        int batterBehind(int i) {
            return count > 0 ? batterRound(placeOf(next) + i % count) : NONE;
        }

        int chanceOf(int b, int e) {
            return b >= 0 && b < MOST_BATTERS && e >= 0 && e < HITS ? chances[b * HITS + e] : 0;
        }

        void putChance(int b, int e, int v) {
            if (b >= 0 && b < MOST_BATTERS && e >= 0 && e < HITS) {
                chances[b * HITS + e] = v;
            }
        }

        int tiredChance(int b, int e, int f) {
            int chance = chanceOf(b, e);
            return e == OUT ? chance - tiredBy(b, f) : e == SINGLE ? chance + tiredBy(b, f) : chance;
        }

        int tiredBy(int b, int f) {
            int tire = rules[RULE_TIRE];
            return tire > 0 ? Math.min(chanceOf(b, OUT), f / tire) : 0;
        }

        int happen(Moves moves, int e) {
            int runs = moves.runsBy(e, state);
            int behind = moves.behind(e, state);
            note(e, runs, behind);
            score += runs;
            if (e <= BUNTED) {
                next = batterBehind(1);
                faced++;
            }
            if (behind == OVER) {
                inning++;
            }
            state = behind == OVER ? 0 : behind;
            return runs;
        }

        private void note(int e, int runs, int behind) {
            newest = newest + 1 < MOST_ROWS ? newest + 1 : 0;
            rows = Math.min(rows + 1, MOST_ROWS);
            int from = newest * COLUMNS;
            notes[from + WHO] = next;
            notes[from + WHAT] = e;
            notes[from + RUNS] = runs;
            notes[from + INNING] = inning;
            notes[from + AHEAD] = state;
            notes[from + BEHIND] = behind;
        }

        /** Of row i of the log, 0 being the latest. */
        int noted(int i, int column) {
            if (!hasRow(i) || !within(column, 0, COLUMNS - 1)) {
                return NONE;
            }
            int row = newest >= i ? newest - i : newest - i + MOST_ROWS;
            return notes[row * COLUMNS + column];
        }

        int rowsOf(int b) {
            int sum = 0;
            for (int i = 0; i < rows; i++) {
                sum += noted(i, WHO) == b ? 1 : 0;
            }
            return sum;
        }

        int runsOf(int b) {
            int sum = 0;
            for (int i = 0; i < rows; i++) {
                sum += noted(i, WHO) == b ? noted(i, RUNS) : 0;
            }
            return sum;
        }
    }

    /** What the latest acts found, each to be brought back. */
    private static final class Past {
        private final Game[] games = new Game[MOST_ACTS];
        private int top;
        int count;

        Past() {
            for (int i = 0; i < MOST_ACTS; i++) {
                games[i] = new Game();
            }
        }

        void forget() {
            count = 0;
        }

        void keep(Game now) {
            Game kept = games[top];
            if (kept != null) {
                kept.copyFrom(now);
            }
            top = top + 1 < MOST_ACTS ? top + 1 : 0;
            count = Math.min(count + 1, MOST_ACTS);
        }

        void bringBack(Game now) {
            if (count == 0) {
                return;
            }
            top = top > 0 ? top - 1 : MOST_ACTS - 1;
            count--;
            Game kept = games[top];
            if (kept != null) {
                now.copyFrom(kept);
            }
        }
    }

    /** What stands behind each event in each state, by the rules of single, double and fly. */
    private static final class Moves {
        final int[] behinds = new int[EVENTS * STATES];
        final int[] runs = new int[EVENTS * STATES];
        private int bases;
        private int outs;
        private int home;

        void fit(int single, int twoBase, int fly) {
            for (int e = 0; e < EVENTS; e++) {
                for (int state = 0; state < STATES; state++) {
                    bases = basesOf(state);
                    outs = outsOf(state);
                    home = 0;
                    boolean can = canBe(e);
                    if (can) {
                        move(e, single, twoBase, fly);
                    }
                    behinds[e * STATES + state] = !can ? NONE : outs > 2 ? OVER : stateOf(bases, outs);
                    runs[e * STATES + state] = home;
                }
            }
        }

        private boolean canBe(int e) {
            if (e == BUNTED) {
                return bases != 0 && outs < 2;
            }
            return e < BUNTED || (bases & 3) == 1;
        }

        private void move(int e, int single, int twoBase, int fly) {
            switch (e) {
                case OUT: putOut(fly); break;
                case WALK: walk(); break;
                case SINGLE: comeOn(single); bases |= 1; break;
                case DOUBLE: comeOn(twoBase); bases |= 2; break;
                case TRIPLE: comeOn(3); bases |= 4; break;
                case HOMER: comeOn(3); home++; break;
                case BUNTED: outs++; comeOn(1); break;
                case STOLEN: bases += 1; break;
                default: outs++; bases -= 1; break;
            }
        }

        private void putOut(int fly) {
            outs++;
            if (fly == 1 && outs < 3 && (bases & 4) != 0) {
                bases -= 4;
                home = 1;
            }
        }

        /** The runners who must make room do: the lowest base that was free is taken. */
        private void walk() {
            if ((bases & 1) == 0) {
                bases |= 1;
            } else if ((bases & 2) == 0) {
                bases |= 2;
            } else if ((bases & 4) == 0) {
                bases |= 4;
            } else {
                home = 1;
            }
        }

        private void comeOn(int by) {
            int moved = bases << by;
            home = Integer.bitCount(moved >> 3);
            bases = moved & 7;
        }

        boolean can(int e, int state) {
            return behind(e, state) != NONE;
        }

        boolean canChoose(int how, int state) {
            return how == HIT || can(how == BUNT ? BUNTED : STOLEN, state);
        }

        int behind(int e, int state) {
            return e >= 0 && e < EVENTS && state >= 0 && state < STATES ? behinds[e * STATES + state] : NONE;
        }

        int runsBy(int e, int state) {
            return e >= 0 && e < EVENTS && state >= 0 && state < STATES ? runs[e * STATES + state] : 0;
        }
    }

    /**
     * Means of runs, as whole numbers of units: what j batters bring is told by units[j],
     * so every mean is exact. Row j holds it for each state; that of OVER stays 0.
     */
    private static final class Means {
        private static final int WIDTH = STATES + 1;
        private static final int ROWS = DEEPEST + 1;

        final Moves moves = new Moves();
        private final long[] rows = new long[ROWS * WIDTH];
        private final long[] units = new long[ROWS];
        private final int[] chances = new int[HITS];
        private final long[] swings = new long[WIDTH];
        private boolean oddsOnly;
        private int steal;
        private int depth;

        void scaleBy(long scale) {
            units[0] = 1;
            for (int j = 1; j < ROWS; j++) {
                units[j] = units[j - 1] * scale;
            }
        }

        long unit(int k) {
            return within(k, 0, DEEPEST) ? units[k] : 1;
        }

        void sendUp(Game game, int b, int faced) {
            for (int e = 0; e < HITS; e++) {
                chances[e] = game.chanceOf(b, e);
            }
            int tired = game.tiredBy(b, faced);
            chances[OUT] -= tired;
            chances[SINGLE] += tired;
        }

        long plainMean(Game game, int first, int faced, int k, int state) {
            scaleBy(TWENTY);
            for (int j = 1; j < k; j++) {
                sendUp(game, game.batterRound(first + k - j), faced + k - j);
                fillRow(j);
            }
            sendUp(game, game.batterRound(first), faced);
            return hitMean(k - 1, state);
        }

        long oddsOfRun(Game game, int first, int faced, int k, int state) {
            oddsOnly = true;
            long odds = plainMean(game, first, faced, k, state);
            oddsOnly = false;
            return odds;
        }

        void layTable(Game game, int k) {
            scaleBy((long) TWENTY * game.count);
            for (int e = 0; e < HITS; e++) {
                chances[e] = 0;
                for (int b = 0; b < game.count; b++) {
                    chances[e] += game.chanceOf(b, e);
                }
            }
            for (int j = 1; j <= k; j++) {
                fillRow(j);
            }
        }

        long tableAt(int k, int state) {
            return within(k, 0, DEEPEST) && within(state, 0, OVER) ? rows[k * WIDTH + state] : 0;
        }

        /** By row i of the log, once the table is laid. */
        long addedBy(Game game, int i, int k) {
            long runs = game.noted(i, Game.RUNS) * unit(k);
            return runs + tableAt(k, game.noted(i, Game.BEHIND)) - tableAt(k, game.noted(i, Game.AHEAD));
        }

        /** Row j, from row j - 1, for the batter who is up. */
        void fillRow(int j) {
            if (!within(j, 1, DEEPEST)) {
                return;
            }
            for (int state = 0; state < STATES; state++) {
                rows[j * WIDTH + state] = hitMean(j - 1, state);
            }
        }

        /** For the batter who is up, j more behind him. */
        long hitMean(int j, int state) {
            if (state < 0 || state >= STATES) {
                return 0;
            }
            long sum = 0;
            for (int e = 0; e < HITS; e++) {
                if (chances[e] > 0) {
                    int move = e * STATES + state;
                    sum += chances[e] * gain(j, moves.runs[move], moves.behinds[move]);
                }
            }
            return sum;
        }

        private long gain(int j, int runs, int behind) {
            if (j < 0 || j > DEEPEST || behind < 0 || behind > OVER) {
                return 0;
            }
            return oddsOnly && runs > 0 ? units[j] : runs * units[j] + rows[j * WIDTH + behind];
        }

        private long buntMean(int j, int state) {
            int behind = moves.behind(BUNTED, state);
            return behind == NONE ? NONE : TWENTY * gain(j, moves.runsBy(BUNTED, state), behind);
        }

        /** All rows but the first batter's, who is up then: what is chosen for him is asked by meanBy. */
        void lookAhead(Game game, int k, int stealTwentieths) {
            scaleBy(WISE_SCALE);
            steal = stealTwentieths;
            int first = game.placeOf(game.next);
            for (int j = 1; j < k; j++) {
                sendUp(game, game.batterRound(first + k - j), game.faced + k - j);
                fillWiseRow(j);
            }
            sendUp(game, game.next, game.faced);
            depth = k - 1;
        }

        private void fillWiseRow(int j) {
            if (!within(j, 1, DEEPEST)) {
                return;
            }
            for (int state = 0; state < STATES; state++) {
                swings[state] = swingMean(j - 1, state);
            }
            for (int state = 0; state < STATES; state++) {
                long mean = TWENTY * swings[state];
                if (moves.can(STOLEN, state)) {
                    long stolen = swingAt(moves.behind(STOLEN, state));
                    long caught = swingAt(moves.behind(CAUGHT, state));
                    mean = Math.max(mean, stealMean(stolen, caught));
                }
                rows[j * WIDTH + state] = mean;
            }
        }

        private long swingAt(int state) {
            return state >= 0 && state <= OVER ? swings[state] : 0;
        }

        private long swingMean(int j, int state) {
            return state == OVER ? 0 : Math.max(hitMean(j, state), buntMean(j, state));
        }

        private long stealMean(long stolen, long caught) {
            return steal * stolen + (TWENTY - steal) * caught;
        }

        long meanBy(int how, int state) {
            if (how == HIT) {
                return TWENTY * hitMean(depth, state);
            }
            if (how == BUNT) {
                return TWENTY * buntMean(depth, state);
            }
            if (!moves.can(STOLEN, state)) {
                return NONE;
            }
            long stolen = swingMean(depth, moves.behind(STOLEN, state));
            return stealMean(stolen, swingMean(depth, moves.behind(CAUGHT, state)));
        }

        int choiceIn(int state) {
            int swing = swingIn(state);
            return meanBy(STEAL, state) > meanBy(swing, state) ? STEAL : swing;
        }

        int swingIn(int state) {
            return meanBy(BUNT, state) > meanBy(HIT, state) ? BUNT : HIT;
        }
    }

    /** Orders of batters by what they are worth. */
    private static final class Orders {
        private final int[] picks = new int[DEEPEST_BEST];
        private final int[] found = new int[MOST_BATTERS];
        private int foundCode;
        long foundWorth;

        long worthNow(Means means, Game game, int k) {
            return means.plainMean(game, 0, 0, k, 0);
        }

        long worthExchanged(Means means, Game game, int i, int j, int k) {
            game.exchange(i, j);
            long worth = means.plainMean(game, 0, 0, k, 0);
            game.exchange(i, j);
            return worth;
        }

        /** Makes the exchange by which the order is worth most; whether there is one that is worth more. */
        boolean improve(Means means, Game game, int k) {
            long most = worthNow(means, game, k);
            int one = NONE;
            int other = NONE;
            // places from k on don't count for the worth: two of them needn't be tried
            for (int i = 0; i < game.count && i < k; i++) {
                for (int j = i + 1; j < game.count; j++) {
                    long worth = worthExchanged(means, game, i, j, k);
                    if (worth > most) {
                        most = worth;
                        one = i;
                        other = j;
                    }
                }
            }
            if (one == NONE) {
                return false;
            }
            game.exchange(one, other);
            return true;
        }

        int foundAt(int i) {
            return within(i, 0, MOST_BATTERS - 1) ? found[i] : NONE;
        }

        /** From the last place to the first: what is behind a batter is reckoned once for all ahead of him. */
        void seek(Means means, Game game, int k) {
            int count = game.count;
            foundWorth = NONE;
            foundCode = 0;
            means.scaleBy(TWENTY);
            for (int third = 0; third < (k > 2 ? count : 1); third++) {
                reckon(means, game, third, 2, k);
                for (int second = 0; second < (k > 1 ? count : 1); second++) {
                    if (k > 2 && !fit(count, 1, second, third)) {
                        continue;
                    }
                    reckon(means, game, second, 1, k);
                    for (int first = 0; first < count; first++) {
                        if ((k < 2 || fit(count, 1, first, second)) && (k < 3 || fit(count, 2, first, third))) {
                            means.sendUp(game, first, 0);
                            compare(means.hitMean(k - 1, 0), first, second, third);
                        }
                    }
                }
            }
            layFound(count, k);
        }

        /** What he at a place behind the first and those behind him bring; a place from k on doesn't count. */
        private void reckon(Means means, Game game, int b, int place, int k) {
            if (place < k) {
                means.sendUp(game, b, place);
                means.fillRow(k - place);
            }
        }

        /** Whether two can be so many places apart: they are one batter just where the round of the order brings him again. */
        private boolean fit(int count, int apart, int one, int other) {
            return count > 0 && (one == other) == (apart % count == 0);
        }

        private void compare(long worth, int first, int second, int third) {
            int code = (first * MOST_BATTERS + second) * MOST_BATTERS + third;
            if (worth > foundWorth || worth == foundWorth && code < foundCode) {
                foundWorth = worth;
                foundCode = code;
            }
        }

        /** Those picked, then all others by numbers. */
        private void layFound(int count, int k) {
            int rest = foundCode;
            for (int i = DEEPEST_BEST - 1; i >= 0; i--) {
                picks[i] = rest % MOST_BATTERS;
                rest = rest / MOST_BATTERS;
            }
            int picked = Math.min(k, count);
            for (int i = 0; i < picked && i < DEEPEST_BEST; i++) {
                found[i] = picks[i];
            }
            int place = picked;
            for (int b = 0; b < count && place < MOST_BATTERS; b++) {
                if (!isPicked(picked, b)) {
                    found[place] = b;
                    place++;
                }
            }
        }

        private boolean isPicked(int picked, int b) {
            for (int i = 0; i < picked && i < DEEPEST_BEST; i++) {
                if (picks[i] == b) {
                    return true;
                }
            }
            return false;
        }
    }

    /** Plays batters by draws. */
    private static final class Player {
        private static final long FACTOR = 16807;
        private static final long MODULUS = 2147483647;
        private static final int AHEAD = 2;

        private long drawn;

        void seedWith(int seed) {
            drawn = seed;
        }

        private int drawTwentieth() {
            drawn = FACTOR * drawn % MODULUS;
            return (int) (drawn % TWENTY);
        }

        /** One batter's turn; his runs. */
        int playOne(Means means, Game game, boolean wise) {
            int how = HIT;
            if (wise) {
                means.lookAhead(game, AHEAD, game.ruled(RULE_STEAL));
                how = means.choiceIn(game.state);
            }
            if (how == STEAL) {
                int inning = game.inning;
                game.happen(means.moves, drawTwentieth() < game.ruled(RULE_STEAL) ? STOLEN : CAUGHT);
                if (game.inning != inning) {
                    return 0;
                }
                how = means.swingIn(game.state);
            }
            return game.happen(means.moves, how == BUNT ? BUNTED : drawHit(game));
        }

        private int drawHit(Game game) {
            int rest = drawTwentieth();
            for (int e = OUT; e < HOMER; e++) {
                rest -= game.tiredChance(game.next, e, game.faced);
                if (rest < 0) {
                    return e;
                }
            }
            return HOMER;
        }
    }
}
