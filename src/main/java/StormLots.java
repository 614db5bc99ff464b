import java.util.Arrays;

/**
 * A ship in a storm that lies still when a certain one of her crew is over the side.
 * The document's promises say what each public method answers; README.md shows how they are used.
 */
public final class StormLots {
    public static final int NONE = -1000000, BAD = -1000001, STATE = -1000002, FULL = -1000003;

    private static final int FOUND = -1000010, FAULTY = -1000100;
    private static final int NULL = 1, PLACE = 2, KIND = 3, SIZE = 4, STORE = 5;

    private static final int ROWS = 8, LANES = 3, ITEMS = 40, BYTES = 80;
    private static final int MOST_PEOPLE = 6, MOST_LOTS = 4, MOST_CARGO = 3, MOST_ACTS = 24;
    private static final int MOST_HOURS = 24, MOST_VOYAGES = 10, IMAGES = 2;
    private static final int MOST_PURSE = 999, MOST_SEED = 999999;

    private static final int PERSON = 0, SAILOR = 1, SWORN = 2, PRIEST = 3, PASSENGER = 4, STOWAWAY = 5;
    private static final int KINDS = 6;
    /** The KIND that each KIND is, too; nothing stands above a PERSON. */
    private static final int[] KIND_ABOVE = {-1, PERSON, SAILOR, SAILOR, PERSON, PASSENGER};

    private final Row[] rows = new Row[ROWS];
    private final Tape tape = new Tape();
    /** Without people it is no SHIP. */
    private final Ship now = new Ship();
    private final Ship draft = new Ship();
    private final Ship[] images = new Ship[IMAGES];
    private final Acts acts = new Acts();
    private final Foresight foresight = new Foresight();
    private final Voyages voyages = new Voyages();
    private final Gale gale = new Gale();
    private final Asks asks = new Asks();
    private int finding;

    public StormLots() {
        for (int r = 0; r < ROWS; r++) {
            rows[r] = new Row();
        }
        for (int k = 0; k < IMAGES; k++) {
            images[k] = new Ship();
        }
    }

    // ---- rows

    public int row(int row, int lane, int n) {
        if (isNoRow(row) || isOutside(lane, 0, LANES - 1) || n > ITEMS) {
            return BAD;
        }
        if (n < 0) {
            return found(SIZE);
        }
        rows[row].begin(lane, n);
        return foundNothing(n);
    }

    public int set(int row, int i, int v) {
        if (isNoRow(row)) {
            return BAD;
        }
        Row it = rows[row];
        if (it.isMissing()) {
            return found(NULL);
        }
        if (!it.spans(i, 1)) {
            return found(PLACE);
        }
        return foundNothing(it.put(i, v));
    }

    public int copy(int a, int i, int b, int j, int n) {
        if (isNoRow(a) || isNoRow(b)) {
            return BAD;
        }
        Row from = rows[a];
        Row to = rows[b];
        if (from.isMissing() || to.isMissing()) {
            return found(NULL);
        }
        if (from.lane != to.lane) {
            return found(STORE);
        }
        if (!from.spans(i, n) || !to.spans(j, n)) {
            return found(PLACE);
        }
        System.arraycopy(from.items, i, to.items, j, n);
        return foundNothing(n);
    }

    public int drop(int row) {
        if (isNoRow(row)) {
            return BAD;
        }
        Row it = rows[row];
        if (it.isMissing()) {
            return found(NULL);
        }
        int had = it.size;
        it.end();
        return foundNothing(had);
    }

    // ---- what is told

    public int feed(int letter) {
        if (isOutside(letter, 0, 255)) {
            return BAD;
        }
        return tape.takes(letter) ? tape.length : FULL;
    }

    public int ship() {
        boolean faultless = tape.reads(draft);
        tape.length = 0;
        if (!faultless) {
            return FAULTY - tape.at;
        }
        now.becomes(draft);
        acts.forget();
        return now.people;
    }

    public int fault() {
        return tape.fault;
    }

    public int undo() {
        return acts.takeBack(now) ? acts.kept : STATE;
    }

    // ---- what is done

    public int cast(int person) {
        if (!now.has(person)) {
            return BAD;
        }
        if (!now.isInStorm() || !now.isDrawing(person) || now.allIfNamed(person) == 0) {
            return STATE;
        }
        if (now.lots >= MOST_LOTS) {
            return FULL;
        }
        acts.keep(now);
        now.learnLot(person);
        now.lots++;
        now.hours++;
        return now.lots;
    }

    public int throwOver(int person, int still) {
        if (!now.has(person) || isOutside(still, 0, 1)) {
            return BAD;
        }
        if (!now.isInStorm() || !now.isAboard(person) || now.allIfThrown(person, still) == 0) {
            return STATE;
        }
        acts.keep(now);
        if (still == 1) {
            now.learnStill(person);
        } else {
            now.learnInnocent(person);
        }
        now.hours++;
        return Integer.bitCount(now.aboard);
    }

    public int cargo() {
        if (!now.isInStorm()) {
            return STATE;
        }
        if (now.cargo >= MOST_CARGO) {
            return FULL;
        }
        acts.keep(now);
        now.cargo++;
        return now.cargo;
    }

    public int hour() {
        if (!now.isInStorm()) {
            return STATE;
        }
        acts.keep(now);
        now.hours++;
        return now.hours;
    }

    public int joins(int person) {
        if (!now.has(person)) {
            return BAD;
        }
        if (!now.isInStorm() || !now.isAboard(person) || now.isDrawing(person)) {
            return STATE;
        }
        acts.keep(now);
        now.takeLot(person);
        return now.drawers();
    }

    public int person(int person, int what) {
        if (!now.has(person)) {
            return BAD;
        }
        switch (what) {
            case 0: return now.weights[person];
            case 1: return now.isAboard(person) ? 1 : 0;
            case 2: return now.isDrawing(person) ? 1 : 0;
            case 3: return now.truthOf(person);
            default: return BAD;
        }
    }

    public int sea(int what) {
        if (!now.isShip()) {
            return STATE;
        }
        switch (what) {
            case 0: return now.hours;
            case 1: return now.lastHour();
            case 2: return now.still ? 0 : now.isInStorm() ? 1 : 2;
            case 3: return now.lots;
            case 4: return now.cargo;
            default: return BAD;
        }
    }

    public long likelihood(int person) {
        return now.has(person) ? now.likelihoods[person] : BAD;
    }

    // ---- foretold

    public long belief(int person, int what) {
        if (!now.has(person) || isOutside(what, 0, 1)) {
            return BAD;
        }
        return lowest(now.likelihoods[person], now.all(), what);
    }

    public int likeliest() {
        return now.isShip() ? now.likeliestAboard() : STATE;
    }

    public long named(int person, int what) {
        if (!now.has(person) || isOutside(what, 0, 1)) {
            return BAD;
        }
        if (now.drawing == 0) {
            return STATE;
        }
        if (!now.isDrawing(person)) {
            return lowest(0, 1, what);
        }
        return lowest(now.allIfNamed(person), now.allLots(), what);
    }

    public int tells() {
        if (!now.isShip() || now.drawing == 0) {
            return STATE;
        }
        return foresight.whoTells(now);
    }

    public long saved(int h, int what) {
        if (!now.isShip()) {
            return STATE;
        }
        if (isOutside(h, 1, 2) || isOutside(what, 0, 2)) {
            return BAD;
        }
        if (!now.isInStorm()) {
            return STATE;
        }
        if (h == 1 || now.hours + 1 >= now.lastHour()) {
            foresight.planOneHour(now);
        } else {
            foresight.planTwoHours(now);
        }
        return what == 2 ? foresight.best : lowest(foresight.above, foresight.below, what);
    }

    public int sure(int person, int a) {
        if (!now.has(person) || isOutside(a, 1, 99)) {
            return BAD;
        }
        if (!now.isDrawing(person) || now.still) {
            return STATE;
        }
        return foresight.lotsTillSure(now, person, a);
    }

    public int price(int person, int purse, int other) {
        if (!now.has(person) || isOutside(purse, 0, MOST_PURSE) || (other != -1 && !now.has(other))) {
            return BAD;
        }
        if (!now.isDrawing(person)) {
            return STATE;
        }
        if (other == -1) {
            return now.shareOf(person, purse);
        }
        if (now.isDrawing(other) || !now.isAboard(other)) {
            return STATE;
        }
        return now.shareOf(person, purse) - foresight.shareIfJoined(now, person, purse, other);
    }

    public int been(int row, int i, int n, int what) {
        if (!now.isShip()) {
            return STATE;
        }
        if (isNoRow(row) || isOutside(n, 1, MOST_VOYAGES) || isOutside(what, 0, 1)) {
            return BAD;
        }
        Row told = rows[row];
        if (told.isMissing()) {
            return found(NULL);
        }
        if (!told.spans(i, 2 * n)) {
            return found(PLACE);
        }
        if (!voyages.areTold(told, i, n, now.people)) {
            return BAD;
        }
        return foundNothing(what == 0 ? voyages.who : voyages.fewestThatLeaveThem());
    }

    public int storm(int a, int seed, int what) {
        if (!now.isShip()) {
            return STATE;
        }
        if (isOutside(a, 1, 100) || isOutside(seed, 1, MOST_SEED) || isOutside(what, 0, 2)) {
            return BAD;
        }
        if (!now.isInStorm()) {
            return STATE;
        }
        gale.blow(now, a, seed);
        switch (what) {
            case 0: return gale.innocents;
            case 1: return gale.hours;
            default: return gale.ship.still ? 1 : 0;
        }
    }

    public int image(int k) {
        if (isOutside(k, 0, IMAGES - 1)) {
            return BAD;
        }
        if (!now.isShip()) {
            return STATE;
        }
        images[k].becomes(now);
        return 1;
    }

    public int restore(int k) {
        if (isOutside(k, 0, IMAGES - 1)) {
            return BAD;
        }
        if (!images[k].isShip()) {
            return STATE;
        }
        now.becomes(images[k]);
        acts.forget();
        return 1;
    }

    // ---- asked

    public int kind(int one) {
        return now.has(one) ? now.kinds[one] : BAD;
    }

    public int as(int one, int kind) {
        if (!now.has(one) || isOutside(kind, 0, KINDS - 1)) {
            return BAD;
        }
        return isKindOf(now.kinds[one], kind) ? foundNothing(one) : found(KIND);
    }

    public int ask(int one, int what) {
        if (!now.has(one) || isOutside(what, 0, 1)) {
            return BAD;
        }
        return asks.answer(now, one, what);
    }

    public int trace(int i) {
        return i >= 0 && i < asks.begun ? asks.bodies[i] : NONE;
    }

    public int count(int what) {
        switch (what) {
            case 0: return rowsThere();
            case 1: return now.people;
            case 2: return Integer.bitCount(now.aboard);
            case 3: return now.drawers();
            case 4: return acts.kept;
            case 5: return tape.length;
            default: return BAD;
        }
    }

    public int status() {
        return finding;
    }

    // ---- what several of these need

    private int found(int what) {
        finding = what;
        return FOUND - what;
    }

    private int foundNothing(int answer) {
        finding = 0;
        return answer;
    }

    private int rowsThere() {
        int there = 0;
        for (int r = 0; r < ROWS; r++) {
            if (!rows[r].isMissing()) {
                there++;
            }
        }
        return there;
    }

    private static boolean isNoRow(int row) {
        return row < 0 || row >= ROWS;
    }

    private static boolean isOutside(int number, int least, int most) {
        return number < least || number > most;
    }

    private static boolean isKindOf(int kind, int asked) {
        int it = kind;
        for (int step = 0; step < KINDS && it != asked && it > PERSON && it < KINDS; step++) {
            it = KIND_ABOVE[it];
        }
        return it == asked;
    }

    /** One of the two numbers of a fraction: above (what = 0), below (1). */
    private static long lowest(long above, long below, int what) {
        if (above <= 0 || below <= 0) {
            return what == 0 ? 0 : 1;
        }
        long part = commonPart(above, below);
        if (part <= 0) {
            return what == 0 ? above : below;
        }
        return (what == 0 ? above : below) / part;
    }

    private static long commonPart(long a, long b) {
        long one = a;
        long rest = b;
        for (int step = 0; step < 1000 && rest != 0; step++) {
            long next = one % rest;
            one = rest;
            rest = next;
        }
        return one;
    }

    /** A ROW keeps room for all its ITEMS from the start, so that no call makes an array. */
    private static final class Row {
        private static final int MISSING = -1;
        int lane = MISSING;
        int size;
        final int[] items = new int[ITEMS];

        boolean isMissing() {
            return lane == MISSING;
        }

        void begin(int newLane, int n) {
            lane = newLane;
            size = n;
            Arrays.fill(items, 0);
        }

        void end() {
            lane = MISSING;
            size = 0;
        }

        /** Said without i + n, which could wrap around. */
        boolean spans(int i, int n) {
            return i >= 0 && n >= 0 && i <= size && n <= size - i;
        }

        int put(int i, int v) {
            if (!spans(i, 1)) {
                return 0;
            }
            items[i] = lane == 0 ? (byte) v : lane == 1 ? (short) v : v;
            return items[i];
        }
    }

    /** The bytes that were told, and the reading of them. */
    private static final class Tape {
        private static final int CANNOT_STAND = 1, WRONG_NUMBER = 2, NO_ROOM = 3;
        final int[] bytes = new int[BYTES];
        int length;
        /** The place that is read; behind a reading that failed the place of the FAULT. */
        int at;
        int fault;
        private int value;

        boolean takes(int letter) {
            if (length < 0 || length >= BYTES) {
                return false;
            }
            bytes[length] = letter;
            length++;
            return true;
        }

        boolean reads(Ship draft) {
            at = 0;
            draft.clear();
            return readsLaw(draft) && readsPeople(draft);
        }

        private boolean readsLaw(Ship draft) {
            if (!passes('s') || !isNumber(0, 10)) {
                return false;
            }
            draft.truth = value;
            if (!passes(',') || !isNumber(1, 20)) {
                return false;
            }
            draft.sink = value;
            if (!passes(',') || !isNumber(0, 19)) {
                return false;
            }
            draft.drop = value;
            return passes(';');
        }

        private boolean readsPeople(Ship draft) {
            for (int n = 0; n <= MOST_PEOPLE && (n == 0 || at < length); n++) {
                if (!readsPerson(draft)) {
                    return false;
                }
            }
            return true;
        }

        private boolean readsPerson(Ship draft) {
            int kind = kindOf(byteAt(at));
            if (kind == PERSON) {
                return fails(CANNOT_STAND);
            }
            if (draft.people >= MOST_PEOPLE) {
                return fails(NO_ROOM);
            }
            at++;
            if (!isNumber(1, 9) || !passes(';')) {
                return false;
            }
            draft.addPerson(kind, value);
            return true;
        }

        private boolean passes(int letter) {
            if (byteAt(at) != letter) {
                return fails(CANNOT_STAND);
            }
            at++;
            return true;
        }

        private boolean isNumber(int least, int most) {
            int figures = 0;
            int number = 0;
            while (figures < 3 && isFigure(byteAt(at + figures))) {
                number = number * 10 + byteAt(at + figures) - '0';
                figures++;
            }
            if (figures < 1 || figures > 2) {
                return fails(CANNOT_STAND);
            }
            if (isOutside(number, least, most)) {
                return fails(WRONG_NUMBER);
            }
            value = number;
            at += figures;
            return true;
        }

        private boolean fails(int number) {
            fault = number;
            return false;
        }

        private int byteAt(int i) {
            return i >= 0 && i < length && i < BYTES ? bytes[i] : -1;
        }

        private static boolean isFigure(int letter) {
            return letter >= '0' && letter <= '9';
        }

        private static int kindOf(int letter) {
            switch (letter) {
                case 'a': return SAILOR;
                case 'o': return SWORN;
                case 'r': return PRIEST;
                case 'g': return PASSENGER;
                case 'w': return STOWAWAY;
                default: return PERSON;
            }
        }
    }

    /** A SHIP as it is at one time, and what is known of her PEOPLE then. */
    private static final class Ship {
        int people, truth, sink, drop;
        int hours, lots, cargo;
        /** Sets of PEOPLE; who is not aboard does not DRAW either. */
        int aboard, drawing;
        boolean still;
        final int[] kinds = new int[MOST_PEOPLE];
        final int[] weights = new int[MOST_PEOPLE];
        final long[] likelihoods = new long[MOST_PEOPLE];

        void clear() {
            people = 0;
            truth = 0;
            sink = 0;
            drop = 0;
            hours = 0;
            lots = 0;
            cargo = 0;
            aboard = 0;
            drawing = 0;
            still = false;
        }

        void becomes(Ship other) {
            people = other.people;
            truth = other.truth;
            sink = other.sink;
            drop = other.drop;
            hours = other.hours;
            lots = other.lots;
            cargo = other.cargo;
            aboard = other.aboard;
            drawing = other.drawing;
            still = other.still;
            for (int p = 0; p < MOST_PEOPLE; p++) {
                kinds[p] = other.kinds[p];
                weights[p] = other.weights[p];
                likelihoods[p] = other.likelihoods[p];
            }
        }

        void addPerson(int kind, int weight) {
            if (people < 0 || people >= MOST_PEOPLE) {
                return;
            }
            kinds[people] = kind;
            weights[people] = weight;
            likelihoods[people] = kind == STOWAWAY ? 2L * weight : weight;
            aboard |= 1 << people;
            if (kind != PASSENGER && kind != STOWAWAY) {
                drawing |= 1 << people;
            }
            people++;
        }

        boolean isShip() {
            return people > 0;
        }

        boolean has(int p) {
            return p >= 0 && p < people && p < MOST_PEOPLE;
        }

        boolean isAboard(int p) {
            return has(p) && (aboard >> p & 1) == 1;
        }

        /** Who is not there has no bit; only the shift has to be kept from wrapping around. */
        boolean isDrawing(int p) {
            return p >= 0 && p < MOST_PEOPLE && (drawing >> p & 1) == 1;
        }

        int drawers() {
            return Integer.bitCount(drawing);
        }

        int truthOf(int p) {
            return isDrawing(p) ? truthOfKind(kinds[p]) : 0;
        }

        private int truthOfKind(int kind) {
            switch (kind) {
                case SWORN: return truth / 2;
                case PRIEST: return truth > 0 ? truth - 1 : 0;
                default: return truth;
            }
        }

        int lastHour() {
            return sink + cargo;
        }

        boolean isInStorm() {
            return isShip() && !still && hours < lastHour();
        }

        long all() {
            long sum = 0;
            for (int p = 0; p < people; p++) {
                sum += likelihoods[p];
            }
            return sum;
        }

        /** All LIKELIHOODS times all that a LOT multiplies by: what a LOT for each who DRAWS adds up to. */
        long allLots() {
            return 10L * drawers() * all();
        }

        int likeliestAboard() {
            int best = NONE;
            long most = -1;
            for (int p = 0; p < people; p++) {
                if (isAboard(p) && likelihoods[p] > most) {
                    best = p;
                    most = likelihoods[p];
                }
            }
            return best;
        }

        long mostAboardBut(int one) {
            long most = 0;
            for (int p = 0; p < people; p++) {
                if (p != one && isAboard(p)) {
                    most = Math.max(most, likelihoods[p]);
                }
            }
            return most;
        }

        boolean isBelieved(int p, int ofHundred) {
            return has(p) && likelihoods[p] * 100 >= all() * ofHundred;
        }

        /** What a LOT that names one of so many drawers multiplies the LIKELIHOOD of p by. */
        private long lotFactor(int p, int named, int drawers) {
            if (!isDrawing(p)) {
                return 10;
            }
            int its = truthOfKind(kinds[p]);
            return p == named ? drawers * its + 10 - its : 10 - its;
        }

        long allIfNamed(int named) {
            int drawers = drawers();
            long sum = 0;
            for (int p = 0; p < people; p++) {
                sum += likelihoods[p] * lotFactor(p, named, drawers);
            }
            return sum;
        }

        long allIfThrown(int p, int stillThen) {
            if (!has(p)) {
                return 0;
            }
            long others = all() - likelihoods[p];
            return stillThen == 1 ? likelihoods[p] * 20 + others * drop : others;
        }

        /** How much of a purse falls to one by the next LOT, cut. */
        int shareOf(int p, int purse) {
            long below = allLots();
            return below <= 0 ? 0 : (int) (allIfNamed(p) * purse / below);
        }

        void learnLot(int named) {
            int drawers = drawers();
            for (int p = 0; p < people; p++) {
                likelihoods[p] *= lotFactor(p, named, drawers);
            }
        }

        void learnStill(int thrown) {
            for (int p = 0; p < people; p++) {
                likelihoods[p] *= p == thrown ? 20 : drop;
            }
            leave(thrown);
            still = true;
        }

        void learnInnocent(int thrown) {
            if (has(thrown)) {
                likelihoods[thrown] = 0;
                leave(thrown);
            }
        }

        private void leave(int thrown) {
            aboard &= ~(1 << thrown);
            drawing &= ~(1 << thrown);
        }

        void takeLot(int p) {
            if (isAboard(p)) {
                drawing |= 1 << p;
            }
        }
    }

    /** A ring of the SHIP as she was ahead of each of the latest ACTS. */
    private static final class Acts {
        private final Ship[] before = new Ship[MOST_ACTS];
        private int next;
        int kept;

        Acts() {
            for (int i = 0; i < MOST_ACTS; i++) {
                before[i] = new Ship();
            }
        }

        void keep(Ship ship) {
            if (next < 0 || next >= MOST_ACTS) {
                return;
            }
            before[next].becomes(ship);
            next = next + 1 < MOST_ACTS ? next + 1 : 0;
            kept = Math.min(kept + 1, MOST_ACTS);
        }

        boolean takeBack(Ship ship) {
            int latest = next > 0 ? next - 1 : MOST_ACTS - 1;
            if (kept <= 0 || latest >= MOST_ACTS) {
                return false;
            }
            ship.becomes(before[latest]);
            next = latest;
            kept--;
            return true;
        }

        void forget() {
            kept = 0;
        }
    }

    /** What is foretold is tried on a SHIP of its own, so that nothing changes. */
    private static final class Foresight {
        private static final int WAIT = 0, CAST = 1, THROW = 2;
        private final Ship trial = new Ship();
        /** The likelihood to be saved by what is best, a fraction, and what that is. */
        long above, below;
        int best;

        int whoTells(Ship now) {
            int first = now.likeliestAboard();
            int who = 0;
            for (int p = 0; p < now.people; p++) {
                if (now.isDrawing(p) && now.allIfNamed(p) > 0) {
                    trial.becomes(now);
                    trial.learnLot(p);
                    who |= trial.likeliestAboard() != first ? 1 << p : 0;
                }
            }
            return who;
        }

        int lotsTillSure(Ship now, int person, int ofHundred) {
            trial.becomes(now);
            for (int n = 0; n <= MOST_LOTS; n++) {
                if (trial.isBelieved(person, ofHundred)) {
                    return n;
                }
                if (trial.allIfNamed(person) == 0) {
                    return NONE;
                }
                trial.learnLot(person);
            }
            return NONE;
        }

        int shareIfJoined(Ship now, int person, int purse, int other) {
            trial.becomes(now);
            trial.takeLot(other);
            return trial.shareOf(person, purse);
        }

        /** To CAST in the last HOUR is never better than to wait, so it is not weighed. */
        void planOneHour(Ship now) {
            long all = now.all();
            beginPlan(20 * all, lastHour(now, all, 0));
            for (int p = 0; p < now.people; p++) {
                if (now.isAboard(p)) {
                    weigh(lastHour(now, all, now.likelihoods[p]), THROW + p);
                }
            }
        }

        /** All is told by the same number below, so that what is above can be compared. */
        void planTwoHours(Ship now) {
            long all = now.all();
            boolean mayCast = now.drawing != 0 && now.lots < MOST_LOTS;
            long scale = mayCast ? 10L * now.drawers() : 1;
            beginPlan(400 * all * scale, scale * bothHours(now, all, now.mostAboardBut(NONE)));
            if (mayCast) {
                weigh(aboveByLot(now), CAST);
            }
            for (int p = 0; p < now.people; p++) {
                if (now.isAboard(p)) {
                    long its = now.likelihoods[p];
                    weigh(scale * (400 * its + bothHours(now, all - its, now.mostAboardBut(p))), THROW + p);
                }
            }
        }

        private void beginPlan(long wholeBelow, long aboveByWaiting) {
            below = wholeBelow;
            above = aboveByWaiting;
            best = WAIT;
        }

        private void weigh(long itsAbove, int what) {
            if (itsAbove > above) {
                above = itsAbove;
                best = what;
            }
        }

        /** By 20 times all: saved in one HOUR, if one of this LIKELIHOOD is THROWN (0: nobody). */
        private static long lastHour(Ship now, long all, long thrown) {
            return all * now.drop + thrown * (20 - now.drop);
        }

        /** By 400 times all: saved in two, if the first does nothing and the likeliest is THROWN then. */
        private static long bothHours(Ship now, long all, long most) {
            return 20 * all * now.drop + (20 - now.drop) * lastHour(now, all, most);
        }

        /** LIKELIHOODS behind a LOT hold how likely that LOT is, too, so they only have to be added. */
        private long aboveByLot(Ship now) {
            long sum = 0;
            for (int p = 0; p < now.people; p++) {
                if (now.isDrawing(p)) {
                    trial.becomes(now);
                    trial.learnLot(p);
                    sum += bothHours(now, trial.all(), trial.mostAboardBut(NONE));
                }
            }
            return sum;
        }
    }

    /** Voyages told by a ROW: each leaves a set of those who can be the one. */
    private static final class Voyages {
        private static final int SETS = 1 << MOST_PEOPLE;
        private final int[] leaves = new int[MOST_VOYAGES];
        private final int[] fewest = new int[SETS];
        private int voyages;
        private int everybody;
        int who;

        boolean areTold(Row row, int from, int n, int people) {
            if (isOutside(n, 0, MOST_VOYAGES) || !row.spans(from, 2 * n) || isOutside(people, 0, MOST_PEOPLE)) {
                return false;
            }
            voyages = n;
            everybody = (1 << people) - 1;
            who = everybody;
            for (int v = 0; v < n; v++) {
                int aboard = row.items[from + 2 * v];
                int stormed = row.items[from + 2 * v + 1];
                if (isOutside(aboard, 0, everybody) || isOutside(stormed, 0, 1)) {
                    return false;
                }
                leaves[v] = stormed == 1 ? aboard : everybody & ~aboard;
                who &= leaves[v];
            }
            return true;
        }

        /** For each set the fewest voyages that leave it: there are far fewer sets than choices of voyages. */
        int fewestThatLeaveThem() {
            Arrays.fill(fewest, MOST_VOYAGES + 1);
            fewest[everybody] = 0;
            for (int v = 0; v < voyages; v++) {
                for (int set = 0; set < SETS; set++) {
                    int left = set & leaves[v];
                    fewest[left] = Math.min(fewest[left], fewest[set] + 1);
                }
            }
            return fewest[who];
        }
    }

    /** A STORM gone through by a RULE and by draws, on a SHIP of its own. */
    private static final class Gale {
        final Ship ship = new Ship();
        int innocents, hours;
        private int one;
        private long x;

        void blow(Ship now, int rule, int seed) {
            ship.becomes(now);
            x = seed;
            one = drawTheOne();
            innocents = 0;
            for (int h = 0; h < MOST_HOURS && ship.isInStorm(); h++) {
                passHour(rule);
            }
            hours = ship.hours - now.hours;
        }

        private long draw() {
            x = x * 16807 % 2147483647;
            return x;
        }

        private int drawTheOne() {
            long all = ship.all();
            long rest = all > 0 ? draw() % all : 0;
            for (int p = 0; p < ship.people; p++) {
                rest -= ship.likelihoods[p];
                if (rest < 0) {
                    return p;
                }
            }
            return NONE;
        }

        private void passHour(int rule) {
            int likeliest = ship.likeliestAboard();
            if (ship.drawing == 0 || ship.lots >= MOST_LOTS || ship.isBelieved(likeliest, rule)) {
                throwOne(likeliest);
            } else {
                castLot();
            }
            if (!ship.still) {
                ship.still = draw() % 20 < ship.drop;
            }
            ship.hours++;
        }

        private void throwOne(int person) {
            if (person == one) {
                ship.still = true;
                return;
            }
            ship.learnInnocent(person);
            innocents++;
        }

        private void castLot() {
            long drawn = draw();
            boolean isTrue = drawn % 10 < ship.truthOf(one);
            ship.learnLot(isTrue ? one : drawerAt(drawn / 10));
            ship.lots++;
        }

        private int drawerAt(long drawn) {
            int drawers = ship.drawers();
            long place = drawers > 0 ? drawn % drawers : 0;
            for (int p = 0; p < ship.people; p++) {
                if (ship.isDrawing(p)) {
                    if (place == 0) {
                        return p;
                    }
                    place--;
                }
            }
            return NONE;
        }
    }

    /** ASKS of one PERSON by BODIES, and THE TRACE that those leave. */
    private static final class Asks {
        private static final int DEEPEST = 16;
        /** By KIND, the BODY that is told for it or for the nearest KIND that it is, too. */
        private static final int[] SIZE_BODIES = {10, 11, 12, 11, 13, 14};
        private static final int[] MARK_BODIES = {20, 21, 24, 22, 23, 23};
        final int[] bodies = new int[16];
        int begun;

        int answer(Ship ship, int one, int what) {
            begun = 0;
            return what == 0 ? sizeOf(ship, one, 0) : markOf(ship, one, 0);
        }

        private int sizeOf(Ship ship, int one, int depth) {
            return give(nearestBody(SIZE_BODIES, ship, one), ship, one, depth);
        }

        private int markOf(Ship ship, int one, int depth) {
            return give(nearestBody(MARK_BODIES, ship, one), ship, one, depth);
        }

        private static int nearestBody(int[] byKind, Ship ship, int one) {
            int kind = ship.has(one) ? ship.kinds[one] : PERSON;
            return kind >= 0 && kind < byKind.length ? byKind[kind] : 0;
        }

        private int give(int body, Ship ship, int one, int depth) {
            if (depth > DEEPEST || !ship.has(one)) {
                return 0;
            }
            begin(body);
            int deeper = depth + 1;
            switch (body) {
                case 10: return ship.weights[one];
                case 11: return give(10, ship, one, deeper) + markOf(ship, one, deeper);
                case 12: return -give(11, ship, one, deeper);
                case 13: return give(10, ship, one, deeper) - 100;
                case 14: return give(13, ship, one, deeper) * 2;
                case 20: return one;
                case 21: return give(20, ship, one, deeper) + ship.truthOf(one);
                case 22: return give(21, ship, one, deeper) - 1000;
                case 23: return give(20, ship, one, deeper) - sizeOf(ship, one, deeper);
                case 24: return give(21, ship, one, deeper) * 2;
                default: return 0;
            }
        }

        private void begin(int body) {
            if (begun >= 0 && begun < bodies.length) {
                bodies[begun] = body;
                begun++;
            }
        }
    }
}
