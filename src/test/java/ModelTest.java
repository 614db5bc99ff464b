import java.util.Random;

/** Runs of calls, chosen by fixed seeds, on the program and on the model beside it. */
public final class ModelTest {
    private static final int RUNS = 400, CALLS = 512;
    private static final Check check = new Check();

    private final Random dice;
    private final StormLots x = new StormLots();
    private final Model y = new Model();
    private int calls;

    private ModelTest(int seed) {
        dice = new Random(seed);
    }

    public static void main(String[] args) {
        for (int seed = 0; seed < RUNS; seed++) {
            check.where = "seed " + seed;
            ModelTest test = new ModelTest(seed);
            while (test.calls < CALLS) {
                test.go();
            }
        }
        check.end();
    }

    private void due(String call, long got, long want) {
        calls++;
        check.due("call " + calls + " " + call, got, want);
    }

    /** Mostly a number as told, now and then one beyond an edge. */
    private int near(int least, int most) {
        int edge = dice.nextInt(40);
        if (edge == 0) {
            return least - 1;
        }
        if (edge == 1) {
            return most + 1;
        }
        if (edge == 2) {
            return new int[] {Integer.MIN_VALUE, Integer.MAX_VALUE, -1, 0, 1 << 30, 33}[dice.nextInt(6)];
        }
        return least + dice.nextInt(most - least + 1);
    }

    private void go() {
        int choice = dice.nextInt(100);
        if (calls == 0 || choice < 1) {
            tell();
        } else if (choice < 22) {
            act();
        } else if (choice < 40) {
            rows();
        } else if (choice < 55) {
            look();
        } else if (choice < 90) {
            foretell();
        } else {
            ask();
        }
    }

    private void tell() {
        String text = text();
        if (dice.nextInt(4) == 0) {
            text = spoil(text);
        }
        for (int i = 0; i < text.length(); i++) {
            int letter = text.charAt(i);
            due("feed", x.feed(letter), y.feed(letter));
        }
        if (dice.nextInt(8) == 0) {
            due("feed", x.feed(256), y.feed(256));
        }
        due("count", x.count(5), y.count(5));
        due("ship " + text, x.ship(), y.ship());
        due("fault", x.fault(), y.fault());
    }

    private String text() {
        StringBuilder b = new StringBuilder("s");
        int truth = dice.nextInt(4) == 0 ? 10 : dice.nextInt(11);
        b.append(truth).append(',').append(1 + dice.nextInt(20)).append(',');
        b.append(dice.nextInt(3) == 0 ? 0 : dice.nextInt(20)).append(';');
        int people = dice.nextInt(30) == 0 ? 7 : 1 + dice.nextInt(6);
        for (int p = 0; p < people; p++) {
            b.append("aorgwag".charAt(dice.nextInt(7))).append(1 + dice.nextInt(9)).append(';');
        }
        return b.toString();
    }

    private String spoil(String text) {
        StringBuilder b = new StringBuilder(text);
        int at = dice.nextInt(b.length());
        char letter = "0123456789,;asorgwz A9".charAt(dice.nextInt(22));
        switch (dice.nextInt(4)) {
            case 0: b.setCharAt(at, letter); break;
            case 1: b.insert(at, letter); break;
            case 2: b.deleteCharAt(at); break;
            default: b.setLength(at); break;
        }
        return b.toString();
    }

    private void act() {
        int p = near(0, 5);
        switch (dice.nextInt(12)) {
            case 0: due("cargo", x.cargo(), y.cargo()); break;
            case 1: due("hour", x.hour(), y.hour()); break;
            case 2: case 3: due("joins " + p, x.joins(p), y.joins(p)); break;
            case 4: case 5: case 6: due("cast " + p, x.cast(p), y.cast(p)); break;
            case 7: {
                int still = dice.nextInt(3) == 0 ? near(0, 1) : 0;
                due("throwOver " + p + " " + still, x.throwOver(p, still), y.throwOver(p, still));
                break;
            }
            case 8: {
                int k = near(0, 1);
                due("image " + k, x.image(k), y.image(k));
                break;
            }
            case 9: {
                int k = near(0, 1);
                due("restore " + k, x.restore(k), y.restore(k));
                break;
            }
            default: due("undo", x.undo(), y.undo()); break;
        }
    }

    private void rows() {
        int r = near(0, 7);
        int q = dice.nextInt(2) == 0 ? r : near(0, 7);
        int i = near(0, 39);
        int j = near(0, 20);
        int n = near(0, 40);
        switch (dice.nextInt(12)) {
            case 0: case 1: {
                int lane = near(0, 2);
                due("row " + r + " " + lane + " " + n, x.row(r, lane, n), y.row(r, lane, n));
                break;
            }
            case 2: due("drop " + r, x.drop(r), y.drop(r)); break;
            case 3: case 4: {
                int k = near(0, 20);
                int m = near(0, 12);
                due("copy " + r + " " + k + " " + q + " " + j + " " + m, x.copy(r, k, q, j, m), y.copy(r, k, q, j, m));
                break;
            }
            case 5: {
                int v = dice.nextInt();
                due("set " + r + " " + i + " " + v, x.set(r, i, v), y.set(r, i, v));
                break;
            }
            default: voyages(r, dice.nextInt(8), 1 + dice.nextInt(10)); break;
        }
        due("status", x.status(), y.status());
    }

    private void voyages(int r, int i, int n) {
        int people = (int) Math.max(1, y.count(1));
        int one = dice.nextInt(people);
        for (int v = 0; v < n && dice.nextInt(20) > 0; v++) {
            int set = dice.nextInt(1 << people);
            int storm = dice.nextInt(15) == 0 ? dice.nextInt(3) : set >> one & 1;
            due("set", x.set(r, i + 2 * v, set), y.set(r, i + 2 * v, set));
            due("set", x.set(r, i + 2 * v + 1, storm), y.set(r, i + 2 * v + 1, storm));
        }
        int m = dice.nextInt(10) == 0 ? near(1, 10) : n;
        int what = near(0, 1);
        due("been " + r + " " + i + " " + m, x.been(r, i, m, what), y.been(r, i, m, what));
        due("been " + r + " " + i + " " + m, x.been(r, i, m, 1), y.been(r, i, m, 1));
    }

    private void look() {
        int p = near(0, 5);
        switch (dice.nextInt(6)) {
            case 0: {
                int what = near(0, 3);
                due("person " + p + " " + what, x.person(p, what), y.person(p, what));
                break;
            }
            case 1: case 2: {
                int what = near(0, 4);
                due("sea " + what, x.sea(what), y.sea(what));
                break;
            }
            case 3: case 4: due("likelihood " + p, x.likelihood(p), y.likelihood(p)); break;
            default: {
                int what = near(0, 5);
                due("count " + what, x.count(what), y.count(what));
                break;
            }
        }
    }

    private void foretell() {
        int p = near(0, 5);
        switch (dice.nextInt(10)) {
            case 0: {
                int what = near(0, 1);
                due("belief " + p + " " + what, x.belief(p, what), y.belief(p, what));
                break;
            }
            case 1: due("likeliest", x.likeliest(), y.likeliest()); break;
            case 2: {
                int what = near(0, 1);
                due("named " + p + " " + what, x.named(p, what), y.named(p, what));
                break;
            }
            case 3: due("tells", x.tells(), y.tells()); break;
            case 4: case 5: {
                int h = near(1, 2);
                int what = near(0, 2);
                due("saved " + h + " " + what, x.saved(h, what), y.saved(h, what));
                break;
            }
            case 6: {
                int a = near(1, 99);
                due("sure " + p + " " + a, x.sure(p, a), y.sure(p, a));
                break;
            }
            case 7: {
                int purse = near(0, 999);
                int other = near(-1, 5);
                due("price " + p + " " + purse + " " + other, x.price(p, purse, other), y.price(p, purse, other));
                break;
            }
            default: {
                int a = near(1, 100);
                int seed = near(1, 999999);
                int what = near(0, 2);
                due("storm " + a + " " + seed + " " + what, x.storm(a, seed, what), y.storm(a, seed, what));
                break;
            }
        }
    }

    private void ask() {
        int p = near(0, 5);
        switch (dice.nextInt(4)) {
            case 0: due("kind " + p, x.kind(p), y.kind(p)); break;
            case 1: {
                int kind = near(0, 5);
                due("as " + p + " " + kind, x.as(p, kind), y.as(p, kind));
                due("status", x.status(), y.status());
                break;
            }
            default: {
                int what = near(0, 1);
                due("ask " + p + " " + what, x.ask(p, what), y.ask(p, what));
                int i = near(0, 6);
                due("trace " + i, x.trace(i), y.trace(i));
                break;
            }
        }
    }
}
