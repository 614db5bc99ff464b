import java.util.function.Consumer;
import java.util.function.Supplier;
import java.util.function.ToLongFunction;

/** "What is refused, or found, changes nothing but status()": each call, by each of its refusals and findings. */
public final class RefusalEdgeTest {
    private static final int BAD = -1000001, STATE = -1000002, FULL = -1000003;
    private static final int NULL = -1000011, PLACE = -1000012, KIND = -1000013, SIZE = -1000014, STORE = -1000015;
    private static final Check check = new Check();

    private Supplier<StormLots> ahead;
    private String seen;
    private int status;

    private RefusalEdgeTest(String where, Consumer<StormLots> deeds) {
        check.where = where;
        ahead = () -> {
            StormLots x = new StormLots();
            rows(x);
            deeds.accept(x);
            return x;
        };
        seen = Look.at(ahead.get());
        status = ahead.get().status();
    }

    /** Row 0 of bytes and row 1 of shorts hold voyages, row 2 of ints has none, row 3 holds what is no set. */
    private static void rows(StormLots x) {
        int[] items = {15, 1, 3, 1, 8, 0};
        for (int r = 0; r < 2; r++) {
            x.row(r, r, 6);
            for (int i = 0; i < 6; i++) {
                x.set(r, i, items[(i + r) % 6]);
            }
        }
        x.row(2, 2, 0);
        x.row(3, 2, 2);
        x.set(3, 0, 64);
    }

    private static void tell(StormLots x, String text) {
        Check.feed(x, text);
        x.ship();
    }

    private void refuses(String call, long want, ToLongFunction<StormLots> made) {
        StormLots x = ahead.get();
        check.due(call, made.applyAsLong(x), want);
        boolean found = want <= -1000011 && want >= -1000015;
        check.due("status behind " + call, x.status(), found ? -1000010 - want : status);
        check.holds("nothing changes by " + call, Look.at(x).equals(seen));
    }

    public static void main(String[] args) {
        withoutShip();
        inAStorm();
        fullOfAll();
        lyingStill();
        sunk();
        check.end();
    }

    private void refusesRows() {
        refuses("row BAD", BAD, x -> x.row(8, 0, 1));
        refuses("row BAD lane", BAD, x -> x.row(0, 3, 1));
        refuses("row BAD n", BAD, x -> x.row(0, 0, 41));
        refuses("row SIZE", SIZE, x -> x.row(0, 0, -1));
        refuses("row SIZE of a missing one", SIZE, x -> x.row(7, 0, -1));
        refuses("set BAD", BAD, x -> x.set(-1, 0, 1));
        refuses("set NULL", NULL, x -> x.set(7, 0, 1));
        refuses("set PLACE", PLACE, x -> x.set(0, 6, 1));
        refuses("copy BAD", BAD, x -> x.copy(0, 0, 8, 0, 2));
        refuses("copy NULL from", NULL, x -> x.copy(7, 0, 0, 0, 2));
        refuses("copy NULL to", NULL, x -> x.copy(0, 0, 7, 0, 2));
        refuses("copy STORE", STORE, x -> x.copy(0, 0, 1, 0, 6));
        refuses("copy PLACE", PLACE, x -> x.copy(0, 2, 0, 0, 5));
        refuses("copy PLACE", PLACE, x -> x.copy(0, 0, 0, 2, 5));
        refuses("drop BAD", BAD, x -> x.drop(8));
        refuses("drop NULL", NULL, x -> x.drop(7));
    }

    private void refusesAsks() {
        refuses("kind BAD", BAD, x -> x.kind(6));
        refuses("as BAD", BAD, x -> x.as(0, 6));
        refuses("as BAD", BAD, x -> x.as(6, 0));
        refuses("ask BAD", BAD, x -> x.ask(0, 2));
        refuses("ask BAD", BAD, x -> x.ask(-1, 0));
        refuses("count BAD", BAD, x -> x.count(6));
        refuses("person BAD", BAD, x -> x.person(0, 4));
        refuses("likelihood BAD", BAD, x -> x.likelihood(6));
        refuses("belief BAD", BAD, x -> x.belief(0, 2));
        refuses("named BAD", BAD, x -> x.named(0, 2));
        refuses("sure BAD", BAD, x -> x.sure(0, 100));
        refuses("price BAD", BAD, x -> x.price(0, 1000, -1));
        refuses("image BAD", BAD, x -> x.image(2));
        refuses("restore BAD", BAD, x -> x.restore(2));
    }

    private void refusesWhatIsOver() {
        refuses("cast BAD", BAD, x -> x.cast(6));
        refuses("cast STATE", STATE, x -> x.cast(1));
        refuses("throwOver STATE", STATE, x -> x.throwOver(1, 0));
        refuses("throwOver STATE", STATE, x -> x.throwOver(1, 1));
        refuses("cargo STATE", STATE, x -> x.cargo());
        refuses("hour STATE", STATE, x -> x.hour());
        refuses("joins STATE", STATE, x -> x.joins(3));
        refuses("saved STATE", STATE, x -> x.saved(1, 0));
        refuses("storm STATE", STATE, x -> x.storm(50, 1, 0));
    }

    private static void withoutShip() {
        RefusalEdgeTest test = new RefusalEdgeTest("nothing changes without a SHIP", x -> {
            x.drop(7);
            Check.feed(x, "s5,9,1;a1");
        });
        test.refusesRows();
        test.refusesAsks();
        test.refuses("feed BAD", BAD, x -> x.feed(256));
        test.refuses("undo STATE", STATE, x -> x.undo());
        test.refuses("cast BAD", BAD, x -> x.cast(0));
        test.refuses("throwOver BAD", BAD, x -> x.throwOver(0, 0));
        test.refuses("joins BAD", BAD, x -> x.joins(0));
        test.refuses("cargo STATE", STATE, x -> x.cargo());
        test.refuses("hour STATE", STATE, x -> x.hour());
        test.refuses("sea STATE", STATE, x -> x.sea(0));
        test.refuses("likeliest STATE", STATE, x -> x.likeliest());
        test.refuses("tells STATE", STATE, x -> x.tells());
        test.refuses("saved STATE", STATE, x -> x.saved(1, 0));
        test.refuses("storm STATE", STATE, x -> x.storm(1, 1, 0));
        test.refuses("been STATE", STATE, x -> x.been(0, 0, 1, 0));
        test.refuses("image STATE", STATE, x -> x.image(0));
        test.refuses("restore STATE", STATE, x -> x.restore(0));
        test.refuses("kind BAD", BAD, x -> x.kind(0));
        test.refuses("as BAD", BAD, x -> x.as(0, 0));
        test.refuses("ask BAD", BAD, x -> x.ask(0, 0));
    }

    private static void actInAStorm(StormLots x) {
        tell(x, "s10,9,0;a3;a5;g1;g4;w2;a7;");
        x.ask(1, 1);
        x.cargo();
        x.image(1);
        x.throwOver(2, 0);
        x.throwOver(3, 0);
        x.throwOver(4, 0);
        x.cast(0);
        Check.feed(x, "s5,9,1;a1");
    }

    private static void inAStorm() {
        RefusalEdgeTest test = new RefusalEdgeTest("nothing changes in a storm", RefusalEdgeTest::actInAStorm);
        test.refusesRows();
        test.refusesAsks();
        test.refuses("feed BAD", BAD, x -> x.feed(-1));
        test.refuses("cast BAD", BAD, x -> x.cast(6));
        test.refuses("cast STATE, does not draw", STATE, x -> x.cast(2));
        test.refuses("cast STATE, all would be 0", STATE, x -> x.cast(1));
        test.refuses("throwOver BAD", BAD, x -> x.throwOver(0, 2));
        test.refuses("throwOver STATE, not aboard", STATE, x -> x.throwOver(2, 0));
        test.refuses("throwOver STATE, all would be 0", STATE, x -> x.throwOver(0, 0));
        test.refuses("throwOver STATE, all would be 0", STATE, x -> x.throwOver(1, 1));
        test.refuses("joins BAD", BAD, x -> x.joins(6));
        test.refuses("joins STATE, draws", STATE, x -> x.joins(0));
        test.refuses("joins STATE, not aboard", STATE, x -> x.joins(3));
        test.refuses("sea BAD", BAD, x -> x.sea(5));
        test.refuses("saved BAD", BAD, x -> x.saved(3, 0));
        test.refuses("sure STATE", STATE, x -> x.sure(2, 50));
        test.refuses("price STATE", STATE, x -> x.price(2, 50, -1));
        test.refuses("price STATE", STATE, x -> x.price(0, 50, 1));
        test.refuses("price STATE", STATE, x -> x.price(0, 50, 3));
        test.refuses("been BAD", BAD, x -> x.been(0, 0, 11, 0));
        test.refuses("been BAD, no set", BAD, x -> x.been(3, 0, 1, 0));
        test.refuses("been NULL", NULL, x -> x.been(7, 0, 1, 0));
        test.refuses("been PLACE", PLACE, x -> x.been(0, 5, 1, 0));
        test.refuses("storm BAD", BAD, x -> x.storm(50, 0, 0));
        test.refuses("restore STATE", STATE, x -> x.restore(0));
        test.refuses("as KIND", KIND, x -> x.as(0, 2));
    }

    private static void fullOfAll() {
        RefusalEdgeTest test = new RefusalEdgeTest("nothing changes by what is FULL", x -> {
            tell(x, "s6,9,4;a3;o5;r1;g4;w2;a7;");
            for (int i = 0; i < 3; i++) {
                x.cargo();
            }
            for (int i = 0; i < 4; i++) {
                x.cast(i % 3);
            }
            for (int i = 0; i < 80; i++) {
                x.feed('s');
            }
        });
        test.refuses("feed FULL", FULL, x -> x.feed('s'));
        test.refuses("cast FULL", FULL, x -> x.cast(0));
        test.refuses("cast STATE", STATE, x -> x.cast(3));
        test.refuses("cargo FULL", FULL, x -> x.cargo());
    }

    private static void lyingStill() {
        RefusalEdgeTest test = new RefusalEdgeTest("nothing changes when it lies still", x -> {
            tell(x, "s6,9,4;a3;o5;r1;g4;w2;a7;");
            x.cast(0);
            x.throwOver(0, 1);
        });
        test.refusesWhatIsOver();
        test.refuses("sure STATE", STATE, x -> x.sure(1, 50));
    }

    private static void sunk() {
        RefusalEdgeTest test = new RefusalEdgeTest("nothing changes when she has sunk", x -> {
            tell(x, "s6,1,4;a3;o5;r1;g4;w2;a7;");
            x.cast(0);
        });
        test.refusesWhatIsOver();
        RefusalEdgeTest nobody = new RefusalEdgeTest("nothing changes when nobody draws", x -> tell(x, "s6,1,4;g3;w1;"));
        nobody.refuses("named STATE", STATE, x -> x.named(0, 0));
        nobody.refuses("tells STATE", STATE, x -> x.tells());
        nobody.refuses("undo STATE", STATE, x -> x.undo());
    }
}
