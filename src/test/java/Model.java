import java.math.BigInteger;
import java.util.ArrayList;
import java.util.List;
import java.util.regex.Matcher;
import java.util.regex.Pattern;

/**
 * The document told a second way, to be compared with the program: what was done is a list that is
 * gone through anew for each call, and all that is known comes from how likely each thing was by each one.
 */
final class Model {
    static final int NONE = -1000000, BAD = -1000001, STATE = -1000002, FULL = -1000003;

    /** A fraction, in lowest terms. */
    static final class Part {
        static final Part ZERO = new Part(BigInteger.ZERO, BigInteger.ONE), ONE = of(1, 1);
        final BigInteger above, below;

        Part(BigInteger above, BigInteger below) {
            BigInteger g = above.gcd(below);
            this.above = above.divide(g);
            this.below = below.divide(g);
        }

        static Part of(long above, long below) {
            return new Part(BigInteger.valueOf(above), BigInteger.valueOf(below));
        }

        Part plus(Part o) {
            return new Part(above.multiply(o.below).add(o.above.multiply(below)), below.multiply(o.below));
        }

        Part less(Part o) {
            return plus(new Part(o.above.negate(), o.below));
        }

        Part times(Part o) {
            return new Part(above.multiply(o.above), below.multiply(o.below));
        }

        Part by(Part o) {
            return new Part(above.multiply(o.below), below.multiply(o.above));
        }

        int compare(Part o) {
            return less(o).above.signum();
        }

        boolean isZero() {
            return above.signum() == 0;
        }

        long tell(int what) {
            return (what == 0 ? above : below).longValueExact();
        }
    }

    enum Deed { LOT, LOST, STILL, CARGO, WAIT, JOIN }

    static final class Act {
        final Deed deed;
        final int who;

        Act(Deed deed, int who) {
            this.deed = deed;
            this.who = who;
        }
    }

    /** PEOPLE with BODIES as Java itself has them. */
    interface Being {
        Human it();

        default int size() {
            it().trace(10);
            return it().weight;
        }

        default int mark() {
            it().trace(20);
            return it().number;
        }
    }

    abstract static class Human implements Being {
        int number, weight, truth;
        List<Integer> traced = new ArrayList<>();

        public Human it() {
            return this;
        }

        void trace(int body) {
            if (traced.size() < 16) {
                traced.add(body);
            }
        }
    }

    static class Sailor extends Human {
        public int size() {
            trace(11);
            return super.size() + mark();
        }

        public int mark() {
            trace(21);
            return super.mark() + truth;
        }
    }

    static final class Sworn extends Sailor {
        public int size() {
            trace(12);
            return -super.size();
        }

        public int mark() {
            trace(24);
            return 2 * super.mark();
        }
    }

    static final class Priest extends Sailor {
        public int mark() {
            trace(22);
            return super.mark() - 1000;
        }
    }

    static class Passenger extends Human {
        public int size() {
            trace(13);
            return super.size() - 100;
        }

        public int mark() {
            trace(23);
            return super.mark() - size();
        }
    }

    static final class Stowaway extends Passenger {
        public int size() {
            trace(14);
            return 2 * super.size();
        }
    }

    /** What was told by a text, and all that was done since. */
    static final class Story {
        int truth, sink, drop;
        String sorts = "";
        List<Integer> weights = new ArrayList<>();
        List<Act> acts = new ArrayList<>();

        Story twin() {
            Story s = new Story();
            s.truth = truth;
            s.sink = sink;
            s.drop = drop;
            s.sorts = sorts;
            s.weights = weights;
            s.acts = new ArrayList<>(acts);
            return s;
        }

        Story with(Deed deed, int who) {
            Story s = twin();
            s.acts.add(new Act(deed, who));
            return s;
        }

        int people() {
            return sorts.length();
        }

        int times(Deed deed) {
            int n = 0;
            for (Act a : acts) {
                n += a.deed == deed ? 1 : 0;
            }
            return n;
        }

        boolean was(Deed deed, int who) {
            for (Act a : acts) {
                if (a.deed == deed && a.who == who) {
                    return true;
                }
            }
            return false;
        }

        int hours() {
            return acts.size() - times(Deed.CARGO) - times(Deed.JOIN);
        }

        int sinks() {
            return sink + times(Deed.CARGO);
        }

        boolean still() {
            return times(Deed.STILL) > 0;
        }

        boolean storms() {
            return !still() && hours() < sinks();
        }

        boolean aboard(int p) {
            return !was(Deed.LOST, p) && !was(Deed.STILL, p);
        }

        boolean draws(int p) {
            return aboard(p) && ("aor".indexOf(sorts.charAt(p)) >= 0 || was(Deed.JOIN, p));
        }

        List<Integer> drawers() {
            List<Integer> list = new ArrayList<>();
            for (int p = 0; p < people(); p++) {
                if (draws(p)) {
                    list.add(p);
                }
            }
            return list;
        }

        int aboards() {
            int n = 0;
            for (int p = 0; p < people(); p++) {
                n += aboard(p) ? 1 : 0;
            }
            return n;
        }

        int truthOf(int p) {
            if (!draws(p)) {
                return 0;
            }
            char sort = sorts.charAt(p);
            return sort == 'o' ? truth / 2 : sort == 'r' ? Math.max(0, truth - 1) : truth;
        }

        /** How likely the next lot names j, if the one is k. */
        Part lot(int j, int k) {
            int m = drawers().size();
            if (!draws(k)) {
                return Part.of(1, m);
            }
            Part alike = Part.of(10 - truthOf(k), 10L * m);
            return j == k ? alike.plus(Part.of(truthOf(k), 10)) : alike;
        }

        /** LIKELIHOOD of each, whole numbers: each lot is told by 10 m, a still sea by 20. */
        Part[] likelihoods() {
            Part[] of = new Part[people()];
            for (int k = 0; k < of.length; k++) {
                of[k] = Part.of((long) weights.get(k) * (sorts.charAt(k) == 'w' ? 2 : 1), 1);
            }
            Story then = twin();
            then.acts.clear();
            for (Act a : acts) {
                for (int k = 0; k < of.length; k++) {
                    if (a.deed == Deed.LOT) {
                        of[k] = of[k].times(then.lot(a.who, k)).times(Part.of(10L * then.drawers().size(), 1));
                    } else if (a.deed == Deed.LOST && a.who == k) {
                        of[k] = Part.ZERO;
                    } else if (a.deed == Deed.STILL) {
                        of[k] = of[k].times(Part.of(a.who == k ? 20 : drop, 1));
                    }
                }
                then.acts.add(a);
            }
            return of;
        }

        Part all() {
            Part sum = Part.ZERO;
            for (Part p : likelihoods()) {
                sum = sum.plus(p);
            }
            return sum;
        }

        Part[] beliefs() {
            Part[] of = likelihoods();
            Part all = all();
            for (int k = 0; k < of.length; k++) {
                of[k] = of[k].by(all);
            }
            return of;
        }

        int likeliest() {
            Part[] of = likelihoods();
            int best = NONE;
            for (int p = of.length - 1; p >= 0; p--) {
                if (aboard(p) && (best == NONE || of[p].compare(of[best]) >= 0)) {
                    best = p;
                }
            }
            return best;
        }

        Part named(int j) {
            Part[] b = beliefs();
            Part sum = Part.ZERO;
            for (int k = 0; k < b.length && draws(j); k++) {
                sum = sum.plus(b[k].times(lot(j, k)));
            }
            return sum;
        }
    }

    static final class Plan {
        Part value;
        int best;
    }

    /** The best of what can be done in h HOURS. */
    static Plan plan(Story s, int h) {
        Plan plan = new Plan();
        plan.value = h == 0 ? Part.ZERO : Part.of(-1, 1);
        if (h == 0) {
            return plan;
        }
        Part ends = Part.of(s.drop, 20);
        Part goesOn = Part.ONE.less(ends);
        offer(plan, ends.plus(goesOn.times(plan(s.with(Deed.WAIT, 0), h - 1).value)), 0);
        if (!s.drawers().isEmpty() && s.times(Deed.LOT) < 4) {
            Part sum = Part.ZERO;
            for (int j : s.drawers()) {
                Part likely = s.named(j);
                if (!likely.isZero()) {
                    sum = sum.plus(likely.times(plan(s.with(Deed.LOT, j), h - 1).value));
                }
            }
            offer(plan, ends.plus(goesOn.times(sum)), 1);
        }
        for (int p = 0; p < s.people(); p++) {
            if (s.aboard(p)) {
                Part its = s.beliefs()[p];
                Part other = Part.ONE.less(its);
                Part later = other.isZero() ? Part.ZERO : plan(s.with(Deed.LOST, p), h - 1).value;
                offer(plan, its.plus(other.times(ends.plus(goesOn.times(later)))), 2 + p);
            }
        }
        return plan;
    }

    private static void offer(Plan plan, Part value, int what) {
        if (value.compare(plan.value) > 0) {
            plan.value = value;
            plan.best = what;
        }
    }

    private final int[][] rows = new int[8][];
    private final int[] lanes = new int[8];
    private final StringBuilder tape = new StringBuilder();
    private Story story;
    private int undoable;
    private final Story[] images = new Story[2];
    private int fault, status;
    private List<Integer> traced = new ArrayList<>();

    private int found(int what) {
        status = what;
        return -1000010 - what;
    }

    private int well(int answer) {
        status = 0;
        return answer;
    }

    private static boolean in(int n, int least, int most) {
        return n >= least && n <= most;
    }

    private boolean has(int p) {
        return story != null && in(p, 0, story.people() - 1);
    }

    private static int narrow(int lane, int v) {
        return lane == 0 ? v << 24 >> 24 : lane == 1 ? v << 16 >> 16 : v;
    }

    long row(int row, int lane, int n) {
        if (!in(row, 0, 7) || !in(lane, 0, 2) || n > 40) {
            return BAD;
        }
        if (n < 0) {
            return found(4);
        }
        rows[row] = new int[n];
        lanes[row] = lane;
        return well(n);
    }

    long set(int row, int i, int v) {
        if (!in(row, 0, 7)) {
            return BAD;
        }
        if (rows[row] == null) {
            return found(1);
        }
        if (!in(i, 0, rows[row].length - 1)) {
            return found(2);
        }
        rows[row][i] = narrow(lanes[row], v);
        return well(rows[row][i]);
    }

    long copy(int a, int i, int b, int j, int n) {
        if (!in(a, 0, 7) || !in(b, 0, 7)) {
            return BAD;
        }
        if (rows[a] == null || rows[b] == null) {
            return found(1);
        }
        if (lanes[a] != lanes[b]) {
            return found(5);
        }
        if (i < 0 || j < 0 || n < 0 || (long) i + n > rows[a].length || (long) j + n > rows[b].length) {
            return found(2);
        }
        int[] were = rows[a].clone();
        for (int k = 0; k < n; k++) {
            rows[b][j + k] = were[i + k];
        }
        return well(n);
    }

    long drop(int row) {
        if (!in(row, 0, 7)) {
            return BAD;
        }
        if (rows[row] == null) {
            return found(1);
        }
        int n = rows[row].length;
        rows[row] = null;
        return well(n);
    }

    long feed(int letter) {
        if (!in(letter, 0, 255)) {
            return BAD;
        }
        if (tape.length() == 80) {
            return FULL;
        }
        tape.append((char) letter);
        return tape.length();
    }

    private static final Pattern TOKEN = Pattern.compile("[0-9]+|[\\x00-\\xff]", Pattern.DOTALL);

    long ship() {
        String text = tape.toString();
        tape.setLength(0);
        Story told = new Story();
        Matcher m = TOKEN.matcher(text);
        String[] law = {"s", "0-10", ",", "1-20", ",", "0-19", ";"};
        int step = 0;
        while (m.find()) {
            String token = m.group();
            boolean number = token.charAt(0) >= '0' && token.charAt(0) <= '9';
            String want = step < 7 ? law[step] : (step - 7) % 3 == 0 ? "aorgw" : (step - 7) % 3 == 1 ? "1-9" : ";";
            boolean wantsNumber = want.indexOf('-') > 0;
            boolean stands = wantsNumber ? number && token.length() <= 2 : !number && want.contains(token);
            if (!stands) {
                fault = 1;
                return -1000100 - m.start();
            }
            if (wantsNumber) {
                int n = Integer.parseInt(token);
                int dash = want.indexOf('-');
                if (!in(n, Integer.parseInt(want.substring(0, dash)), Integer.parseInt(want.substring(dash + 1)))) {
                    fault = 2;
                    return -1000100 - m.start();
                }
                if (step == 1) {
                    told.truth = n;
                } else if (step == 3) {
                    told.sink = n;
                } else if (step == 5) {
                    told.drop = n;
                } else {
                    told.weights.add(n);
                }
            }
            if (step >= 7 && (step - 7) % 3 == 0) {
                if (told.sorts.length() == 6) {
                    fault = 3;
                    return -1000100 - m.start();
                }
                told.sorts += token;
            }
            step++;
        }
        if (step < 10 || (step - 7) % 3 != 0) {
            fault = 1;
            return -1000100 - text.length();
        }
        story = told;
        undoable = 0;
        return told.people();
    }

    long fault() {
        return fault;
    }

    private void act(Deed deed, int who) {
        story = story.with(deed, who);
        undoable = Math.min(24, undoable + 1);
    }

    long undo() {
        if (undoable == 0) {
            return STATE;
        }
        story = story.twin();
        story.acts.remove(story.acts.size() - 1);
        undoable--;
        return undoable;
    }

    long cast(int p) {
        if (!has(p)) {
            return BAD;
        }
        if (!story.storms() || !story.draws(p) || story.named(p).isZero()) {
            return STATE;
        }
        if (story.times(Deed.LOT) == 4) {
            return FULL;
        }
        act(Deed.LOT, p);
        return story.times(Deed.LOT);
    }

    long throwOver(int p, int still) {
        if (!has(p) || !in(still, 0, 1)) {
            return BAD;
        }
        Deed deed = still == 1 ? Deed.STILL : Deed.LOST;
        if (!story.storms() || !story.aboard(p) || story.with(deed, p).all().isZero()) {
            return STATE;
        }
        act(deed, p);
        return story.aboards();
    }

    long cargo() {
        if (story == null || !story.storms()) {
            return STATE;
        }
        if (story.times(Deed.CARGO) == 3) {
            return FULL;
        }
        act(Deed.CARGO, 0);
        return story.times(Deed.CARGO);
    }

    long hour() {
        if (story == null || !story.storms()) {
            return STATE;
        }
        act(Deed.WAIT, 0);
        return story.hours();
    }

    long joins(int p) {
        if (!has(p)) {
            return BAD;
        }
        if (!story.storms() || !story.aboard(p) || story.draws(p)) {
            return STATE;
        }
        act(Deed.JOIN, p);
        return story.drawers().size();
    }

    long person(int p, int what) {
        if (!has(p) || !in(what, 0, 3)) {
            return BAD;
        }
        int[] of = {story.weights.get(p), story.aboard(p) ? 1 : 0, story.draws(p) ? 1 : 0, story.truthOf(p)};
        return of[what];
    }

    long sea(int what) {
        if (story == null) {
            return STATE;
        }
        if (!in(what, 0, 4)) {
            return BAD;
        }
        int state = story.storms() ? 1 : story.still() ? 0 : 2;
        int[] of = {story.hours(), story.sinks(), state, story.times(Deed.LOT), story.times(Deed.CARGO)};
        return of[what];
    }

    long likelihood(int p) {
        if (!has(p)) {
            return BAD;
        }
        Part of = story.likelihoods()[p];
        return of.tell(1) == 1 ? of.tell(0) : Long.MIN_VALUE;
    }

    long belief(int p, int what) {
        if (!has(p) || !in(what, 0, 1)) {
            return BAD;
        }
        return story.beliefs()[p].tell(what);
    }

    long likeliest() {
        return story == null ? STATE : story.likeliest();
    }

    long named(int p, int what) {
        if (!has(p) || !in(what, 0, 1)) {
            return BAD;
        }
        return story.drawers().isEmpty() ? STATE : story.named(p).tell(what);
    }

    long tells() {
        if (story == null || story.drawers().isEmpty()) {
            return STATE;
        }
        int who = 0;
        for (int j : story.drawers()) {
            if (!story.named(j).isZero() && likeliestBehindLot(j) != story.likeliest()) {
                who |= 1 << j;
            }
        }
        return who;
    }

    private int likeliestBehindLot(int j) {
        Part[] of = story.likelihoods();
        int best = NONE;
        for (int k = 0; k < of.length; k++) {
            of[k] = of[k].times(story.lot(j, k));
            if (story.aboard(k) && (best == NONE || of[k].compare(of[best]) > 0)) {
                best = k;
            }
        }
        return best;
    }

    long saved(int h, int what) {
        if (story == null) {
            return STATE;
        }
        if (!in(h, 1, 2) || !in(what, 0, 2)) {
            return BAD;
        }
        if (!story.storms()) {
            return STATE;
        }
        Plan plan = plan(story, Math.min(h, story.sinks() - story.hours()));
        return what == 2 ? plan.best : plan.value.tell(what);
    }

    long sure(int p, int a) {
        if (!has(p) || !in(a, 1, 99)) {
            return BAD;
        }
        if (!story.draws(p) || story.still()) {
            return STATE;
        }
        Story then = story;
        for (int n = 0; n <= 4; n++) {
            if (then.all().isZero()) {
                return NONE;
            }
            if (then.beliefs()[p].compare(Part.of(a, 100)) >= 0) {
                return n;
            }
            then = then.with(Deed.LOT, p);
        }
        return NONE;
    }

    private static int share(Story s, int p, int purse) {
        Part its = s.named(p).times(Part.of(purse, 1));
        return its.above.divide(its.below).intValueExact();
    }

    long price(int p, int purse, int other) {
        if (!has(p) || !in(purse, 0, 999) || !(other == -1 || has(other))) {
            return BAD;
        }
        if (!story.draws(p) || other != -1 && (story.draws(other) || !story.aboard(other))) {
            return STATE;
        }
        int now = share(story, p, purse);
        return other == -1 ? now : now - share(story.with(Deed.JOIN, other), p, purse);
    }

    long been(int row, int i, int n, int what) {
        if (story == null) {
            return STATE;
        }
        if (!in(row, 0, 7) || !in(n, 1, 10) || !in(what, 0, 1)) {
            return BAD;
        }
        if (rows[row] == null) {
            return found(1);
        }
        if (i < 0 || (long) i + 2 * n > rows[row].length) {
            return found(2);
        }
        for (int v = 0; v < n; v++) {
            if (!in(rows[row][i + 2 * v], 0, (1 << story.people()) - 1) || !in(rows[row][i + 2 * v + 1], 0, 1)) {
                return BAD;
            }
        }
        int who = whoBy(rows[row], i, (1 << n) - 1);
        int fewest = n;
        for (int chosen = 0; chosen < 1 << n; chosen++) {
            if (whoBy(rows[row], i, chosen) == who) {
                fewest = Math.min(fewest, Integer.bitCount(chosen));
            }
        }
        return well(what == 0 ? who : fewest);
    }

    private int whoBy(int[] items, int i, int chosen) {
        int who = 0;
        for (int p = 0; p < story.people(); p++) {
            boolean can = true;
            for (int v = 0; v < 10; v++) {
                if ((chosen >> v & 1) == 1) {
                    can &= (items[i + 2 * v] >> p & 1) == items[i + 2 * v + 1];
                }
            }
            who |= can ? 1 << p : 0;
        }
        return who;
    }

    private long x;

    private long draw() {
        x = x * 16807 % 2147483647;
        return x;
    }

    long storm(int a, int seed, int what) {
        if (story == null) {
            return STATE;
        }
        if (!in(a, 1, 100) || !in(seed, 1, 999999) || !in(what, 0, 2)) {
            return BAD;
        }
        if (!story.storms()) {
            return STATE;
        }
        x = seed;
        long rest = draw() % story.all().tell(0);
        int one = 0;
        while (rest >= story.likelihoods()[one].tell(0)) {
            rest -= story.likelihoods()[one].tell(0);
            one++;
        }
        Story s = story;
        int innocents = 0;
        boolean still = false;
        while (!still && s.storms()) {
            int likeliest = s.likeliest();
            List<Integer> drawers = s.drawers();
            boolean sure = s.beliefs()[likeliest].compare(Part.of(a, 100)) >= 0;
            if (sure || drawers.isEmpty() || s.times(Deed.LOT) == 4) {
                still = likeliest == one;
                innocents += still ? 0 : 1;
                s = s.with(still ? Deed.STILL : Deed.LOST, likeliest);
            } else {
                long d = draw();
                boolean itself = s.draws(one) && d % 10 < s.truthOf(one);
                s = s.with(Deed.LOT, itself ? one : drawers.get((int) (d / 10 % drawers.size())));
            }
            still = still || draw() % 20 < s.drop;
        }
        int[] of = {innocents, s.hours() - story.hours(), still ? 1 : 0};
        return of[what];
    }

    long image(int k) {
        if (!in(k, 0, 1)) {
            return BAD;
        }
        if (story == null) {
            return STATE;
        }
        images[k] = story;
        return 1;
    }

    long restore(int k) {
        if (!in(k, 0, 1)) {
            return BAD;
        }
        if (images[k] == null) {
            return STATE;
        }
        story = images[k];
        undoable = 0;
        return 1;
    }

    private Human human(int p) {
        char sort = story.sorts.charAt(p);
        Human h = sort == 'a' ? new Sailor() : sort == 'o' ? new Sworn() : sort == 'r' ? new Priest()
            : sort == 'g' ? new Passenger() : new Stowaway();
        h.number = p;
        h.weight = story.weights.get(p);
        h.truth = story.truthOf(p);
        return h;
    }

    long kind(int p) {
        return has(p) ? " aorgw".indexOf(story.sorts.charAt(p)) : BAD;
    }

    long as(int p, int kind) {
        if (!has(p) || !in(kind, 0, 5)) {
            return BAD;
        }
        Class<?>[] of = {Being.class, Sailor.class, Sworn.class, Priest.class, Passenger.class, Stowaway.class};
        return of[kind].isInstance(human(p)) ? well(p) : found(3);
    }

    long ask(int p, int what) {
        if (!has(p) || !in(what, 0, 1)) {
            return BAD;
        }
        Human h = human(p);
        traced = h.traced;
        return what == 0 ? h.size() : h.mark();
    }

    long trace(int i) {
        return in(i, 0, traced.size() - 1) ? traced.get(i) : NONE;
    }

    long count(int what) {
        int there = 0;
        for (int[] row : rows) {
            there += row == null ? 0 : 1;
        }
        boolean none = story == null;
        int[] of = {there, none ? 0 : story.people(), none ? 0 : story.aboards(),
            none ? 0 : story.drawers().size(), undoable, tape.length()};
        return in(what, 0, 5) ? of[what] : BAD;
    }

    long status() {
        return status;
    }
}
