/**
 * A stair whose steps belong to owners who ask for being trodden, and walkers who go up it.
 * Every answer is an int; refusals and findings are answers too, nothing is ever thrown.
 */
public final class StairTolls {
    public static final int NONE = -1000000, BAD = -1000001, STATE = -1000002, FULL = -1000003;

    private static final int FOUND = -1000010;
    private static final int FOUND_NULL = 1;
    private static final int FOUND_PLACE = 2;
    private static final int FOUND_KIND = 3;
    private static final int FOUND_SIZE = 4;
    private static final int FOUND_STORE = 5;
    private static final int FAULTY = -1000100;
    private static final int IMAGES = 2;
    private static final int MOST_PAID = 9999;

    private final Rows rows;
    private final Reader reader;
    private final Stair now;
    private final Stair draft;
    private final Stair trial;
    private final Stair[] images;
    private final Acts acts;
    private final Climb climb;
    private final Market market;
    private final Turns turns;
    private final Asks asks;
    private int latestFault;
    private int latestFinding;

    public StairTolls() {
        rows = new Rows();
        reader = new Reader();
        now = new Stair();
        draft = new Stair();
        trial = new Stair();
        images = new Stair[IMAGES];
        for (int k = 0; k < IMAGES; k++) {
            images[k] = new Stair();
        }
        acts = new Acts();
        climb = new Climb();
        market = new Market();
        turns = new Turns();
        asks = new Asks();
        latestFault = 0;
        latestFinding = 0;
    }

    // ---- rows

    public int row(int row, int lane, int n) {
        if (!rows.isNumber(row) || lane < 0 || lane >= Rows.LANES || n > Rows.MOST) {
            return BAD;
        }
        if (n < 0) {
            return found(FOUND_SIZE);
        }
        rows.make(row, lane, n);
        return fine(n);
    }

    public int set(int row, int i, int v) {
        if (!rows.isNumber(row)) {
            return BAD;
        }
        if (rows.isMissing(row)) {
            return found(FOUND_NULL);
        }
        if (i < 0 || i >= rows.sizeOf(row)) {
            return found(FOUND_PLACE);
        }
        return fine(rows.put(row, i, v));
    }

    public int copy(int a, int i, int b, int j, int n) {
        if (!rows.isNumber(a) || !rows.isNumber(b)) {
            return BAD;
        }
        if (rows.isMissing(a) || rows.isMissing(b)) {
            return found(FOUND_NULL);
        }
        if (rows.laneOf(a) != rows.laneOf(b)) {
            return found(FOUND_STORE);
        }
        if (!rows.hasRange(a, i, n) || !rows.hasRange(b, j, n)) {
            return found(FOUND_PLACE);
        }
        rows.move(a, i, b, j, n);
        return fine(n);
    }

    public int drop(int row) {
        if (!rows.isNumber(row)) {
            return BAD;
        }
        if (rows.isMissing(row)) {
            return found(FOUND_NULL);
        }
        int had = rows.sizeOf(row);
        rows.lose(row);
        return fine(had);
    }

    // ---- stairs, acts

    public int feed(long w, int n) {
        if (n < 1 || n > 8) {
            return BAD;
        }
        if (!reader.hasRoomFor(n)) {
            return FULL;
        }
        return reader.append(w, n);
    }

    public int stair() {
        int number = reader.read(draft);
        if (number != 0) {
            latestFault = number;
            return FAULTY - reader.place();
        }
        replaceBy(draft);
        return now.steps;
    }

    public int fault() {
        return latestFault;
    }

    public int price(int step, int v) {
        if (!now.hasStep(step) || v < 0 || v > Stair.DEAREST) {
            return BAD;
        }
        return act(Acts.ASKING, step, v);
    }

    public int sell(int step, int owner) {
        if (!now.hasStep(step) || !Stair.isOwner(owner) || now.owner[step] == owner) {
            return BAD;
        }
        return act(Acts.OWNING, step, owner);
    }

    public int crack(int step, int is) {
        if (!now.hasStep(step) || is < 0 || is > 1) {
            return BAD;
        }
        return act(Acts.BREAKING, step, is);
    }

    public int undo() {
        if (acts.kept() == 0) {
            return STATE;
        }
        acts.undoLatest(now);
        turns.forget();
        return acts.kept();
    }

    public int step(int step, int what) {
        if (!now.hasStep(step)) {
            return BAD;
        }
        switch (what) {
            case 0:
                return now.owner[step];
            case 1:
                return now.asking[step];
            case 2:
                return now.broken[step];
            default:
                return BAD;
        }
    }

    public int way(int walker, int k) {
        if (!now.hasWalker(walker) || k < -3) {
            return BAD;
        }
        climb.find(now, now.reach[walker]);
        if (k == -3) {
            return climb.isGone(now, walker) ? 1 : 0;
        }
        if (k == -2) {
            return climb.isThere() ? climb.cost(now, walker) : NONE;
        }
        return k == -1 ? climb.treads() : climb.tread(k);
    }

    public int takes(int owner) {
        if (now.isNone()) {
            return STATE;
        }
        if (!Stair.isOwner(owner)) {
            return BAD;
        }
        return market.taken(now, 1 << owner);
    }

    // ---- foretold

    public int best(int owners, int what) {
        if (now.isNone()) {
            return STATE;
        }
        if (owners < 1 || owners > Stair.ALL_OWNERS || what < 0 || what > 1) {
            return BAD;
        }
        if (!now.ownAny(owners)) {
            return NONE;
        }
        trial.takeOver(now);
        market.seek(trial, owners);
        if (what == 0) {
            return market.bestAsking();
        }
        return Math.max(0, market.bestTaken() - market.taken(now, owners));
    }

    public int turnsOf(int owner) {
        if (now.isNone()) {
            return STATE;
        }
        if (owner != -1 && !Stair.isOwner(owner)) {
            return BAD;
        }
        turns.play(now, trial, market);
        return owner == -1 ? turns.rounds() : turns.askedBehind(owner);
    }

    public int shares(int a, int b, int c, int k) {
        if (now.isNone()) {
            return STATE;
        }
        if (!Stair.isOwner(a) || !Stair.isOwner(b) || !Stair.isOwner(c)
                || a == b || a == c || b == c || k < 0 || k > 2) {
            return BAD;
        }
        return shareOf(1 << a, 1 << b, 1 << c, k);
    }

    public int planks(int walker) {
        if (!now.hasWalker(walker)) {
            return BAD;
        }
        // Where every paid step asks 1, the cheapest way asks just as much as it needs planks.
        trial.takeOver(now);
        trial.askOneAtMost();
        climb.find(trial, trial.reach[walker]);
        return climb.isThere() ? climb.askedInAll() : NONE;
    }

    public int mean(int owner, int what) {
        if (now.isNone()) {
            return STATE;
        }
        if (!Stair.isOwner(owner) || what < 0 || what > 1) {
            return BAD;
        }
        int folk = now.allFolk();
        if (folk < 1) {
            return NONE;
        }
        int sum = market.taken(now, 1 << owner);
        int divisor = commonDivisor(sum, folk);
        if (divisor < 1) {
            return NONE;
        }
        return (what == 0 ? sum : folk) / divisor;
    }

    public int asked(int walker, int row, int n, int k, int sum, int what) {
        if (!now.hasWalker(walker) || !rows.isNumber(row) || n < 1 || n > Stair.STEPS
                || k < 0 || k >= n || sum < 0 || sum > MOST_PAID || what < 0 || what > 1) {
            return BAD;
        }
        if (rows.isMissing(row)) {
            return found(FOUND_NULL);
        }
        if (n > rows.sizeOf(row)) {
            return found(FOUND_PLACE);
        }
        if (!areRisingSteps(row, n)) {
            return BAD;
        }
        return fine(askingsThatFit(walker, row, n, k, sum, what));
    }

    public int deal(int step, int owner, int what) {
        if (!now.hasStep(step) || !Stair.isOwner(owner) || now.owner[step] == owner
                || what < 0 || what > 1) {
            return BAD;
        }
        int without = dealTaken(1 << owner, what);
        trial.takeOver(now);
        trial.owner[step] = owner;
        if (what == 0) {
            return market.taken(trial, 1 << owner) - without;
        }
        market.seek(trial, 1 << owner);
        return market.bestTaken() - without;
    }

    public int image(int k) {
        if (k < 0 || k >= IMAGES) {
            return BAD;
        }
        if (now.isNone()) {
            return STATE;
        }
        images[k].takeOver(now);
        return 1;
    }

    public int restore(int k) {
        if (k < 0 || k >= IMAGES) {
            return BAD;
        }
        if (images[k].isNone()) {
            return STATE;
        }
        replaceBy(images[k]);
        return 1;
    }

    // ---- asked

    public int kind(int step) {
        return now.hasStep(step) ? Asks.kindOf(now, step) : BAD;
    }

    public int as(int step, int kind) {
        if (!now.hasStep(step) || kind < 0 || kind >= Asks.KINDS) {
            return BAD;
        }
        if (!Asks.isOf(Asks.kindOf(now, step), kind)) {
            return found(FOUND_KIND);
        }
        return fine(step);
    }

    public int ask(int step, int what) {
        if (!now.hasStep(step) || what < 0 || what > 1) {
            return BAD;
        }
        asks.turnTo(now, step);
        return what == 0 ? asks.size() : asks.mark();
    }

    public int trace(int i) {
        return asks.begun(i);
    }

    public int count(int what) {
        switch (what) {
            case 0:
                return rows.there();
            case 1:
                return now.steps;
            case 2:
                return now.walkers;
            case 3:
                return now.brokenOnes();
            case 4:
                return acts.kept();
            case 5:
                return reader.bytes();
            default:
                return BAD;
        }
    }

    public int status() {
        return latestFinding;
    }

    // ---- what several of these need

    private int found(int number) {
        latestFinding = number;
        return FOUND - number;
    }

    private int fine(int answer) {
        latestFinding = 0;
        return answer;
    }

    private void replaceBy(Stair other) {
        now.takeOver(other);
        acts.clear();
        turns.forget();
    }

    private int act(int what, int step, int v) {
        int was = Acts.change(now, what, step, v);
        acts.keep(what, step, was);
        turns.forget();
        return was;
    }

    private int bestTakenBy(int owners) {
        trial.takeOver(now);
        market.seek(trial, owners);
        return market.bestTaken();
    }

    private int dealTaken(int owners, int what) {
        return what == 0 ? market.taken(now, owners) : bestTakenBy(owners);
    }

    /** The least first part that leaves room for the others, then the least second one: the rest is the third's. */
    private int shareOf(int a, int b, int c, int k) {
        int all = bestTakenBy(a | b | c);
        int withSecond = bestTakenBy(a | b);
        int withThird = bestTakenBy(a | c);
        int first = Math.max(bestTakenBy(a), withSecond + withThird - all);
        int second = Math.max(bestTakenBy(b), withSecond - first);
        int third = all - first - second;
        if (third < bestTakenBy(c) || first + third < withThird || second + third < bestTakenBy(b | c)) {
            return NONE;
        }
        if (k == 0) {
            return first;
        }
        return k == 1 ? second : third;
    }

    private static int commonDivisor(int a, int b) {
        int high = a;
        int low = b;
        for (int i = 0; i < 64 && low > 0; i++) {
            int rest = high % low;
            high = low;
            low = rest;
        }
        return high;
    }

    private boolean areRisingSteps(int row, int n) {
        int below = -1;
        for (int i = 0; i < n; i++) {
            int step = rows.item(row, i);
            if (step <= below || !now.hasStep(step)) {
                return false;
            }
            below = step;
        }
        return true;
    }

    private int askingsThatFit(int walker, int row, int n, int k, int sum, int what) {
        int unknown = rows.item(row, k);
        int fits = 0;
        int least = NONE;
        if (!now.hasStep(unknown)) {
            return what == 0 ? fits : least;
        }
        trial.takeOver(now);
        for (int v = 0; v <= Stair.DEAREST; v++) {
            trial.asking[unknown] = v;
            climb.find(trial, trial.reach[walker]);
            if (climb.isGone(trial, walker) && climb.cost(trial, walker) == sum && isTrodden(row, n)) {
                fits++;
                least = least == NONE ? v : least;
            }
        }
        return what == 0 ? fits : least;
    }

    private boolean isTrodden(int row, int n) {
        if (climb.treads() != n) {
            return false;
        }
        for (int i = 0; i < n; i++) {
            if (climb.tread(i) != rows.item(row, i)) {
                return false;
            }
        }
        return true;
    }

    /** Rows 0 .. 7, each missing or of a lane with some items; all items stand in one array made once. */
    private static final class Rows {
        static final int ROWS = 8;
        static final int LANES = 3;
        static final int MOST = 40;
        private static final int MISSING = -1;

        private final int[] lanes = new int[ROWS];
        private final int[] sizes = new int[ROWS];
        private final int[] items = new int[ROWS * MOST];

        Rows() {
            for (int r = 0; r < ROWS; r++) {
                lanes[r] = MISSING;
            }
        }

        boolean isNumber(int row) {
            return row >= 0 && row < ROWS;
        }

        boolean isMissing(int row) {
            return !isNumber(row) || lanes[row] == MISSING;
        }

        int laneOf(int row) {
            return isNumber(row) ? lanes[row] : MISSING;
        }

        int sizeOf(int row) {
            return isMissing(row) ? 0 : sizes[row];
        }

        int item(int row, int i) {
            return i >= 0 && i < sizeOf(row) ? items[row * MOST + i] : NONE;
        }

        /** Told without i + n, which could leave the range of an int. */
        boolean hasRange(int row, int i, int n) {
            int size = sizeOf(row);
            return n >= 0 && n <= size && i >= 0 && i <= size - n;
        }

        void make(int row, int lane, int n) {
            if (!isNumber(row) || n < 0 || n > MOST) {
                return;
            }
            lanes[row] = lane;
            sizes[row] = n;
            for (int i = 0; i < n; i++) {
                items[row * MOST + i] = 0;
            }
        }

        int put(int row, int i, int v) {
            if (i < 0 || i >= sizeOf(row)) {
                return NONE;
            }
            int kept = v;
            if (lanes[row] == 0) {
                kept = (byte) v;
            } else if (lanes[row] == 1) {
                kept = (short) v;
            }
            items[row * MOST + i] = kept;
            return kept;
        }

        void move(int a, int i, int b, int j, int n) {
            if (hasRange(a, i, n) && hasRange(b, j, n)) {
                System.arraycopy(items, a * MOST + i, items, b * MOST + j, n);
            }
        }

        void lose(int row) {
            if (isNumber(row)) {
                lanes[row] = MISSING;
                sizes[row] = 0;
            }
        }

        int there() {
            int sum = 0;
            for (int r = 0; r < ROWS; r++) {
                if (lanes[r] != MISSING) {
                    sum++;
                }
            }
            return sum;
        }
    }

    /** Steps and walkers as they are, or as somebody supposes them; without steps there is no stair. */
    private static final class Stair {
        static final int STEPS = 18;
        static final int WALKERS = 6;
        static final int OWNERS = 5;
        static final int ALL_OWNERS = 31;
        static final int DEAREST = 20;
        static final int FARTHEST = 3;

        int steps;
        int walkers;
        final int[] owner = new int[STEPS];
        final int[] asking = new int[STEPS];
        final int[] broken = new int[STEPS];
        final int[] reach = new int[WALKERS];
        final int[] load = new int[WALKERS];
        final int[] worth = new int[WALKERS];
        final int[] folk = new int[WALKERS];

        static boolean isOwner(int number) {
            return number >= 0 && number < OWNERS;
        }

        boolean isNone() {
            return steps == 0;
        }

        boolean hasStep(int step) {
            return step >= 0 && step < steps;
        }

        boolean hasWalker(int walker) {
            return walker >= 0 && walker < walkers;
        }

        boolean hasReach(int length) {
            for (int w = 0; w < walkers; w++) {
                if (reach[w] == length) {
                    return true;
                }
            }
            return false;
        }

        void clear() {
            steps = 0;
            walkers = 0;
        }

        void addStep(int whose, int asks) {
            if (steps < STEPS) {
                owner[steps] = whose;
                asking[steps] = asks;
                broken[steps] = 0;
                steps++;
            }
        }

        void addWalker(int far, int heavy, int value, int many) {
            if (walkers < WALKERS) {
                reach[walkers] = far;
                load[walkers] = heavy;
                worth[walkers] = value;
                folk[walkers] = many;
                walkers++;
            }
        }

        void takeOver(Stair other) {
            steps = other.steps;
            walkers = other.walkers;
            for (int s = 0; s < STEPS; s++) {
                owner[s] = other.owner[s];
                asking[s] = other.asking[s];
                broken[s] = other.broken[s];
            }
            for (int w = 0; w < WALKERS; w++) {
                reach[w] = other.reach[w];
                load[w] = other.load[w];
                worth[w] = other.worth[w];
                folk[w] = other.folk[w];
            }
        }

        boolean isOf(int owners, int step) {
            return step >= 0 && step < steps && ((owners >> owner[step]) & 1) == 1;
        }

        boolean ownAny(int owners) {
            for (int s = 0; s < steps; s++) {
                if (isOf(owners, s)) {
                    return true;
                }
            }
            return false;
        }

        void askAll(int owners, int v) {
            for (int s = 0; s < steps; s++) {
                if (isOf(owners, s)) {
                    asking[s] = v;
                }
            }
        }

        boolean allAsk(int owners, int v) {
            for (int s = 0; s < steps; s++) {
                if (isOf(owners, s) && asking[s] != v) {
                    return false;
                }
            }
            return true;
        }

        void askOneAtMost() {
            for (int s = 0; s < steps; s++) {
                asking[s] = Math.min(1, asking[s]);
            }
        }

        /** A walker pays his load with every asking. */
        int times(int walker) {
            return hasWalker(walker) ? 1 + load[walker] : 1;
        }

        /** How many times over an asking is paid by all of one reach to whom their way is worth its cost. */
        int unitsPaid(int length, int askedOnWay) {
            int sum = 0;
            for (int w = 0; w < walkers; w++) {
                int each = 1 + load[w];
                if (reach[w] == length && askedOnWay * each <= worth[w]) {
                    sum += each * folk[w];
                }
            }
            return sum;
        }

        int allFolk() {
            int sum = 0;
            for (int w = 0; w < walkers; w++) {
                sum += folk[w];
            }
            return sum;
        }

        int brokenOnes() {
            int sum = 0;
            for (int s = 0; s < steps; s++) {
                sum += broken[s];
            }
            return sum;
        }
    }

    /** The tape, and how a stair is read from it. */
    private static final class Reader {
        private static final int MOST = 400;
        private static final int FIGURES = 3;
        private static final int END = 0;
        private static final int NAME = 1;
        private static final int NUMBER = 2;
        private static final int SIGN = 3;
        private static final int NOTHING = 4;
        private static final String STEP_WORD = "step";
        private static final String WALKER_WORD = "walker";

        private final int[] tape = new int[MOST];
        private int length;
        private int at;
        private int start;
        private int type;
        private int value;
        private int fault;

        int bytes() {
            return length;
        }

        boolean hasRoomFor(int n) {
            return n >= 0 && n <= MOST - length;
        }

        int append(long w, int n) {
            for (int i = n - 1; i >= 0 && length < MOST; i--) {
                tape[length] = (int) ((w >>> (8 * i)) & 255L);
                length++;
            }
            return length;
        }

        /** The place of the token that the reading ended with. */
        int place() {
            return start;
        }

        /** Answers the number of the fault, 0 if there is none; the tape is empty then either way. */
        int read(Stair into) {
            into.clear();
            at = 0;
            fault = 0;
            advance();
            if (!isWord(STEP_WORD)) {
                fail(1);
            }
            for (int i = 0; i <= Stair.STEPS && fault == 0 && isWord(STEP_WORD); i++) {
                readStep(into);
            }
            for (int i = 0; i <= Stair.WALKERS && fault == 0 && isWord(WALKER_WORD); i++) {
                readWalker(into);
            }
            if (type != END) {
                fail(1);
            }
            length = 0;
            return fault;
        }

        /** Later faults do not count: no token is passed behind the first one. */
        private void fail(int number) {
            if (fault == 0) {
                fault = number;
            }
        }

        private void readStep(Stair into) {
            passWord(into.steps < Stair.STEPS);
            int owner = number(0, Stair.OWNERS - 1);
            int asks = number(0, Stair.DEAREST);
            passSign();
            if (fault == 0) {
                into.addStep(owner, asks);
            }
        }

        private void readWalker(Stair into) {
            passWord(into.walkers < Stair.WALKERS);
            int reach = number(1, Stair.FARTHEST);
            int load = number(0, 2);
            int worth = number(0, 200);
            int folk = number(1, 20);
            passSign();
            if (fault == 0) {
                into.addWalker(reach, load, worth, folk);
            }
        }

        private void passWord(boolean hasRoom) {
            if (hasRoom) {
                advance();
            } else {
                fail(3);
            }
        }

        private void passSign() {
            if (type != SIGN) {
                fail(1);
            }
            if (fault == 0) {
                advance();
            }
        }

        private int number(int low, int high) {
            if (fault != 0) {
                return low;
            }
            if (type != NUMBER) {
                fail(1);
                return low;
            }
            if (value < low || value > high) {
                fail(2);
                return low;
            }
            int read = value;
            advance();
            return read;
        }

        private boolean isWord(String word) {
            if (type != NAME || at - start != word.length()) {
                return false;
            }
            for (int i = 0; i < word.length(); i++) {
                if (byteAt(start + i) != word.charAt(i)) {
                    return false;
                }
            }
            return true;
        }

        private int byteAt(int place) {
            return place >= 0 && place < length ? tape[place] : -1;
        }

        private static boolean isBlank(int sign) {
            return sign == ' ' || sign == '\n';
        }

        private static boolean isLetter(int sign) {
            return sign >= 'a' && sign <= 'z';
        }

        private static boolean isFigure(int sign) {
            return sign >= '0' && sign <= '9';
        }

        private void advance() {
            while (at < length && isBlank(byteAt(at))) {
                at++;
            }
            start = at;
            int sign = byteAt(at);
            if (at >= length) {
                type = END;
            } else if (isLetter(sign)) {
                passLetters();
            } else if (isFigure(sign)) {
                passFigures();
            } else {
                type = sign == ';' ? SIGN : NOTHING;
                at++;
            }
        }

        private void passLetters() {
            while (at < length && isLetter(byteAt(at))) {
                at++;
            }
            type = NAME;
        }

        /** More figures than a number has room for are no token at all. */
        private void passFigures() {
            value = 0;
            while (at < length && isFigure(byteAt(at))) {
                if (at - start < FIGURES) {
                    value = value * 10 + byteAt(at) - '0';
                }
                at++;
            }
            type = at - start <= FIGURES ? NUMBER : NOTHING;
        }
    }

    /** What the latest acts found, so that they can be undone. */
    private static final class Acts {
        static final int ASKING = 0;
        static final int OWNING = 1;
        static final int BREAKING = 2;
        private static final int MOST = 24;

        private final int[] whats = new int[MOST];
        private final int[] steps = new int[MOST];
        private final int[] before = new int[MOST];
        private int size;

        static int change(Stair stair, int what, int step, int v) {
            if (!stair.hasStep(step)) {
                return NONE;
            }
            int[] changed = stair.broken;
            if (what == ASKING) {
                changed = stair.asking;
            } else if (what == OWNING) {
                changed = stair.owner;
            }
            int was = changed[step];
            changed[step] = v;
            return was;
        }

        int kept() {
            return size;
        }

        void clear() {
            size = 0;
        }

        void keep(int what, int step, int was) {
            if (size >= MOST) {
                forgetOldest();
            }
            whats[size] = what;
            steps[size] = step;
            before[size] = was;
            size++;
        }

        private void forgetOldest() {
            for (int i = 1; i < MOST; i++) {
                whats[i - 1] = whats[i];
                steps[i - 1] = steps[i];
                before[i - 1] = before[i];
            }
            size = MOST - 1;
        }

        void undoLatest(Stair stair) {
            if (size > 0) {
                size--;
                change(stair, whats[size], steps[size], before[size]);
            }
        }
    }

    /** The way of those who have a reach: it is the same for every load, as a load only multiplies. */
    private static final class Climb {
        /** One asking more outweighs all treads, so that one number orders ways by cost, then by treads. */
        private static final int ASKED_ONE = 32;
        private static final int NO_WAY = 1000000;

        /** Place 0 is below the stair, s + 1 is step s, the last is above. */
        private final int[] rest = new int[Stair.STEPS + 2];
        private final int[] next = new int[Stair.STEPS + 2];
        private final int[] trodden = new int[Stair.STEPS];
        private int treads;

        void find(Stair stair, int reach) {
            int top = Math.min(stair.steps, Stair.STEPS) + 1;
            rest[top] = 0;
            next[top] = top;
            for (int place = top - 1; place > 0; place--) {
                lookUp(place, Math.min(top, place + reach));
                weigh(place, stair.asking[place - 1], stair.broken[place - 1]);
            }
            lookUp(0, Math.min(top, reach));
            follow(top);
        }

        /** Of ways that weigh the same the lowest next step is the first by steps. */
        private void lookUp(int place, int farthest) {
            int least = NO_WAY;
            int lowest = farthest;
            for (int p = place + 1; p <= farthest; p++) {
                if (rest[p] < least) {
                    least = rest[p];
                    lowest = p;
                }
            }
            rest[place] = least;
            next[place] = lowest;
        }

        private void weigh(int place, int asking, int broken) {
            if (broken != 0) {
                rest[place] = NO_WAY;
            } else if (rest[place] < NO_WAY) {
                rest[place] += asking * ASKED_ONE + 1;
            }
        }

        private void follow(int top) {
            treads = 0;
            int place = rest[0] < NO_WAY ? next[0] : top;
            while (treads < Stair.STEPS && place > 0 && place < top) {
                trodden[treads] = place - 1;
                treads++;
                place = next[place];
            }
        }

        boolean isThere() {
            return rest[0] < NO_WAY;
        }

        int treads() {
            return treads;
        }

        int tread(int k) {
            return k >= 0 && k < treads ? trodden[k] : NONE;
        }

        int askedInAll() {
            return rest[0] / ASKED_ONE;
        }

        int cost(Stair stair, int walker) {
            return askedInAll() * stair.times(walker);
        }

        boolean isGone(Stair stair, int walker) {
            return isThere() && stair.hasWalker(walker) && cost(stair, walker) <= stair.worth[walker];
        }

        int askedBy(Stair stair, int owners) {
            int sum = 0;
            for (int i = 0; i < treads; i++) {
                if (stair.isOf(owners, trodden[i])) {
                    sum += stair.asking[trodden[i]];
                }
            }
            return sum;
        }
    }

    /** What owners take, and what they would best ask. */
    private static final class Market {
        private final Climb climb = new Climb();
        private int asking;
        private int taken;

        int taken(Stair stair, int owners) {
            int sum = 0;
            for (int reach = 1; reach <= Stair.FARTHEST; reach++) {
                if (stair.hasReach(reach)) {
                    climb.find(stair, reach);
                    int units = stair.unitsPaid(reach, climb.askedInAll());
                    sum += climb.isThere() ? units * climb.askedBy(stair, owners) : 0;
                }
            }
            return sum;
        }

        /** Leaves the owners' steps asking what is best for them. */
        void seek(Stair supposed, int owners) {
            asking = 0;
            taken = -1;
            for (int v = 0; v <= Stair.DEAREST; v++) {
                supposed.askAll(owners, v);
                int sum = taken(supposed, owners);
                if (sum > taken) {
                    taken = sum;
                    asking = v;
                }
            }
            supposed.askAll(owners, asking);
        }

        int bestAsking() {
            return asking;
        }

        int bestTaken() {
            return taken;
        }
    }

    /** The dearest of all that is foretold: played once, then kept till the stair changes. */
    private static final class Turns {
        private static final int MOST = 20;

        private final int[] behind = new int[Stair.OWNERS];
        private int rounds;
        private boolean isPlayed;

        void forget() {
            isPlayed = false;
        }

        int rounds() {
            return rounds;
        }

        int askedBehind(int owner) {
            return Stair.isOwner(owner) ? behind[owner] : NONE;
        }

        void play(Stair start, Stair supposed, Market market) {
            if (isPlayed) {
                return;
            }
            isPlayed = true;
            rounds = NONE;
            supposed.takeOver(start);
            for (int round = 1; round <= MOST && rounds == NONE; round++) {
                if (!isChangedInRound(supposed, market)) {
                    rounds = round;
                }
            }
        }

        private boolean isChangedInRound(Stair supposed, Market market) {
            boolean changed = false;
            for (int owner = 0; owner < Stair.OWNERS; owner++) {
                behind[owner] = NONE;
                if (supposed.ownAny(1 << owner)) {
                    int before = commonAsking(supposed, 1 << owner);
                    market.seek(supposed, 1 << owner);
                    behind[owner] = market.bestAsking();
                    changed = changed || behind[owner] != before;
                }
            }
            return changed;
        }

        /** NONE if his steps ask unlike things: any one asking changes one of them then. */
        private static int commonAsking(Stair stair, int owners) {
            for (int v = 0; v <= Stair.DEAREST; v++) {
                if (stair.allAsk(owners, v)) {
                    return v;
                }
            }
            return NONE;
        }
    }

    /** Kinds of steps, and what a step says when it is asked by its kind. */
    private static final class Asks {
        static final int KINDS = 6;
        private static final int ANY = 0;
        private static final int PAID = 1;
        private static final int DEAR = 2;
        private static final int JOINT = 3;
        private static final int FREE = 4;
        private static final int BROKEN = 5;
        private static final int FROM_DEAR = 10;
        private static final int MOST = 16;

        private final int[] bodies = new int[MOST];
        private int begun;
        private int kind;
        private int number;
        private int owner;
        private int asking;

        static int kindOf(Stair stair, int step) {
            if (!stair.hasStep(step)) {
                return ANY;
            }
            if (stair.broken[step] != 0) {
                return BROKEN;
            }
            if (stair.asking[step] == 0) {
                return FREE;
            }
            if (stair.asking[step] >= FROM_DEAR) {
                return DEAR;
            }
            boolean isJoint = stair.hasStep(step + 1) && stair.owner[step + 1] == stair.owner[step];
            return isJoint ? JOINT : PAID;
        }

        /** What a step is goes by the kind that it is told as, and the kinds above that one. */
        static boolean isOf(int told, int kind) {
            if (kind == ANY || kind == told) {
                return true;
            }
            if (kind == PAID) {
                return told == DEAR || told == JOINT;
            }
            return kind == FREE && told == BROKEN;
        }

        void turnTo(Stair stair, int step) {
            if (stair.hasStep(step)) {
                begun = 0;
                kind = kindOf(stair, step);
                number = step;
                owner = stair.owner[step];
                asking = stair.asking[step];
            }
        }

        int begun(int i) {
            return i >= 0 && i < begun ? bodies[i] : NONE;
        }

        int size() {
            switch (kind) {
                case PAID:
                case JOINT:
                    return body11();
                case DEAR:
                    return body12();
                case FREE:
                    return body13();
                case BROKEN:
                    return body14();
                default:
                    return body10();
            }
        }

        int mark() {
            switch (kind) {
                case PAID:
                    return body21();
                case JOINT:
                    return body22();
                case FREE:
                case BROKEN:
                    return body23();
                case DEAR:
                    return body24();
                default:
                    return body20();
            }
        }

        private void begin(int body) {
            if (begun < MOST) {
                bodies[begun] = body;
                begun++;
            }
        }

        private int body10() {
            begin(10);
            return asking;
        }

        /** Picks the MARK of the paid kinds by itself: through mark(), size and mark would be a ring of calls. */
        private int body11() {
            begin(11);
            int given = body10();
            if (kind == DEAR) {
                return given + body24();
            }
            return given + (kind == JOINT ? body22() : body21());
        }

        private int body12() {
            begin(12);
            return 0 - body11();
        }

        private int body13() {
            begin(13);
            return body10() - 100;
        }

        private int body14() {
            begin(14);
            return 2 * body13();
        }

        private int body20() {
            begin(20);
            return number;
        }

        private int body21() {
            begin(21);
            return body20() + 10 * owner;
        }

        private int body22() {
            begin(22);
            return body21() - 1000;
        }

        /** Picks the SIZE of the free kinds by itself, as body11 does. */
        private int body23() {
            begin(23);
            int given = body20();
            return given - (kind == BROKEN ? body14() : body13());
        }

        private int body24() {
            begin(24);
            return 2 * body21();
        }
    }
}
