/** For each promise of the document: ordinary inputs, its edges, wrong inputs; all dues were worked out by hand. */
public final class PromiseTest {
    private static final int NONE = -1000000, BAD = -1000001, STATE = -1000002, FULL = -1000003;
    private static final int NULL = -1000011, PLACE = -1000012, KIND = -1000013, SIZE = -1000014, STORE = -1000015;
    private static final int MIN = Integer.MIN_VALUE, MAX = Integer.MAX_VALUE;
    private static final Check check = new Check();

    private PromiseTest() {
    }

    private static void due(String call, long got, long want) {
        check.due(call, got, want);
    }

    private static void at(int promise) {
        check.where = "promise " + promise;
    }

    public static void main(String[] args) {
        newObject();
        rows();
        sets();
        copies();
        drops();
        feeds();
        ships();
        faults();
        undoes();
        casts();
        throwsOver();
        throwsCargo();
        waits();
        joinsLots();
        persons();
        seas();
        likelihoods();
        beliefs();
        likeliests();
        nameds();
        tellings();
        savings();
        sures();
        prices();
        voyages();
        storms();
        images();
        restores();
        kinds();
        asKinds();
        asks();
        traces();
        counts();
        statuses();
        check.end();
    }

    private static void newObject() {
        at(1);
        StormLots x = new StormLots();
        for (int what = 0; what <= 5; what++) {
            due("count", x.count(what), 0);
        }
        due("fault", x.fault(), 0);
        due("status", x.status(), 0);
        due("undo", x.undo(), STATE);
        due("sea", x.sea(0), STATE);
        due("sea 9", x.sea(9), STATE);
        due("likelihood", x.likelihood(0), BAD);
        due("likeliest", x.likeliest(), STATE);
        due("tells", x.tells(), STATE);
        due("saved", x.saved(9, 9), STATE);
        due("storm", x.storm(0, 0, 9), STATE);
        due("been", x.been(9, 0, 0, 9), STATE);
        due("cargo", x.cargo(), STATE);
        due("hour", x.hour(), STATE);
        due("image", x.image(0), STATE);
        due("restore", x.restore(1), STATE);
        due("trace", x.trace(0), NONE);
        due("drop", x.drop(7), NULL);
        due("NONE", StormLots.NONE, NONE);
        due("BAD", StormLots.BAD, BAD);
        due("STATE", StormLots.STATE, STATE);
        due("FULL", StormLots.FULL, FULL);
    }

    private static void rows() {
        at(2);
        StormLots x = Check.told("s5,9,1;a1;");
        due("none", x.row(0, 0, 0), 0);
        due("most", x.row(7, 2, 40), 40);
        due("row -1", x.row(-1, 0, 1), BAD);
        due("row 8", x.row(8, 0, 1), BAD);
        due("lane -1", x.row(0, -1, 1), BAD);
        due("lane 3", x.row(0, 3, 1), BAD);
        due("41", x.row(0, 0, 41), BAD);
        due("max", x.row(0, 0, MAX), BAD);
        due("fewer than none", x.row(0, 0, -1), SIZE);
        due("min", x.row(0, 0, MIN), SIZE);
        due("BAD ahead of SIZE", x.row(0, 3, -1), BAD);
        due("stays", x.drop(7), 40);
        due("make", x.row(1, 2, 4), 4);
        due("set", x.set(1, 0, 1), 1);
        due("set", x.set(1, 1, 1), 1);
        due("refused", x.row(1, 2, -3), SIZE);
        due("stays", x.been(1, 0, 1, 0), 1);
        due("anew", x.row(1, 2, 4), 4);
        due("0 at first", x.been(1, 0, 1, 0), 1);
        due("storm 0", x.set(1, 1, 1), 1);
        due("nobody aboard", x.been(1, 0, 1, 0), 0);
        due("smaller", x.row(1, 0, 2), 2);
        due("beyond", x.set(1, 2, 0), PLACE);
    }

    private static void sets() {
        at(3);
        StormLots x = new StormLots();
        x.row(0, 0, 3);
        x.row(1, 1, 3);
        x.row(2, 2, 3);
        due("byte", x.set(0, 0, 127), 127);
        due("byte", x.set(0, 1, 128), -128);
        due("byte", x.set(0, 2, 511), -1);
        due("byte", x.set(0, 2, 256), 0);
        due("short", x.set(1, 0, 32767), 32767);
        due("short", x.set(1, 2, 32768), -32768);
        due("short", x.set(1, 2, 65536), 0);
        due("short", x.set(1, 2, 128), 128);
        due("int", x.set(2, 2, MIN), MIN);
        due("int", x.set(2, 0, 65536), 65536);
        due("place -1", x.set(2, -1, 0), PLACE);
        due("place 3", x.set(2, 3, 0), PLACE);
        due("place max", x.set(2, MAX, 0), PLACE);
        due("missing", x.set(3, -1, 0), NULL);
        due("row -1", x.set(-1, 0, 0), BAD);
        due("row 8", x.set(8, 0, 0), BAD);
    }

    private static void copies() {
        at(4);
        StormLots x = Check.told("s5,9,1;a1;a1;a1;a1;");
        x.row(0, 2, 6);
        x.set(0, 0, 5);
        x.set(0, 1, 1);
        x.set(0, 2, 9);
        x.set(0, 3, 1);
        due("over itself", x.copy(0, 0, 0, 2, 4), 4);
        due("as they were ahead", x.been(0, 4, 1, 0), 9);
        due("as they were ahead", x.been(0, 2, 1, 0), 5);
        due("back", x.copy(0, 2, 0, 0, 4), 4);
        due("as they were ahead", x.been(0, 0, 1, 0), 5);
        due("as they were ahead", x.been(0, 2, 1, 0), 9);
        x.row(1, 2, 2);
        due("to another", x.copy(0, 4, 1, 0, 2), 2);
        due("came", x.been(1, 0, 1, 0), 9);
        due("none at the ends", x.copy(0, 6, 1, 2, 0), 0);
        due("n below 0", x.copy(0, 1, 1, 1, -1), PLACE);
        due("i below 0", x.copy(0, -1, 1, 0, 1), PLACE);
        due("j below 0", x.copy(0, 0, 1, -1, 1), PLACE);
        due("i beyond", x.copy(0, 5, 1, 0, 2), PLACE);
        due("i beyond", x.copy(0, 7, 1, 0, 0), PLACE);
        due("j beyond", x.copy(0, 0, 1, 1, 2), PLACE);
        due("wraps", x.copy(0, MAX, 1, 0, MAX), PLACE);
        due("wraps", x.copy(0, 1, 1, 0, MAX), PLACE);
        x.row(2, 1, 6);
        due("two lanes", x.copy(0, -1, 2, 0, 1), STORE);
        due("missing ahead of lanes", x.copy(0, -1, 3, 0, 1), NULL);
        due("missing", x.copy(3, 0, 0, 0, 1), NULL);
        due("row 8", x.copy(8, 0, 3, 0, 1), BAD);
        due("row -1", x.copy(3, 0, -1, 0, 1), BAD);
        due("nothing changed", x.been(1, 0, 1, 0), 9);
    }

    private static void drops() {
        at(5);
        StormLots x = new StormLots();
        x.row(2, 1, 7);
        due("drop", x.drop(2), 7);
        due("again", x.drop(2), NULL);
        due("row -1", x.drop(-1), BAD);
        due("row 8", x.drop(8), BAD);
        x.row(2, 0, 0);
        due("none", x.drop(2), 0);
    }

    private static void feeds() {
        at(6);
        StormLots x = new StormLots();
        due("-1", x.feed(-1), BAD);
        due("256", x.feed(256), BAD);
        for (int i = 1; i <= 80; i++) {
            due("feed", x.feed(i == 1 ? 0 : 255), i);
        }
        due("81", x.feed('a'), FULL);
        due("BAD ahead of FULL", x.feed(256), BAD);
        due("count", x.count(5), 80);
        due("read", x.ship(), -1000100);
        due("empty then", x.feed('s'), 1);
    }

    private static void shipIs(String text, int want, int fault) {
        StormLots x = Check.told("s1,7,2;r4;");
        x.hour();
        Check.feed(x, text);
        due(text, x.ship(), want);
        due(text + " fault", x.fault(), fault);
        due(text + " empties", x.count(5), 0);
        due(text + " hour", x.sea(0), want > 0 ? 0 : 1);
        due(text + " acts", x.count(4), want > 0 ? 0 : 1);
        due(text + " people", x.count(1), want > 0 ? want : 1);
    }

    private static void ships() {
        at(7);
        shipIs("s0,1,0;a1;", 1, 0);
        shipIs("s10,20,19;a9;o9;r9;g9;w9;a1;", 6, 0);
        shipIs("s05,09,00;a01;", 1, 0);
        shipIs("", -1000100, 1);
        shipIs("a1;", -1000100, 1);
        shipIs("s", -1000101, 1);
        shipIs("s,", -1000101, 1);
        shipIs("s11,1,0;a1;", -1000101, 2);
        shipIs("s100,1,0;a1;", -1000101, 1);
        shipIs("s0100,1,0;a1;", -1000101, 1);
        shipIs("s5;1,0;a1;", -1000102, 1);
        shipIs("s5,0,0;a1;", -1000103, 2);
        shipIs("s5,21,0;a1;", -1000103, 2);
        shipIs("s5,000,0;a1;", -1000103, 1);
        shipIs("s5,20,20;a1;", -1000106, 2);
        shipIs("s5,20,19,a1;", -1000108, 1);
        shipIs("s5,20,19;", -1000109, 1);
        shipIs("s5,20,19;12;", -1000109, 1);
        shipIs("s5,20,19;a", -1000110, 1);
        shipIs("s5,20,19;a0;", -1000110, 2);
        shipIs("s5,20,19;a10;", -1000110, 2);
        shipIs("s5,20,19;a001;", -1000110, 1);
        shipIs("s5,20,19;aa1;", -1000110, 1);
        shipIs("s5,20,19;a1", -1000111, 1);
        shipIs("s5,20,19;a1,", -1000111, 1);
        shipIs("s5,20,19;a1;b1;", -1000112, 1);
        shipIs("s5,20,19;a1; ", -1000112, 1);
        shipIs("S5,20,19;a1;", -1000100, 1);
        shipIs("s5,20,19;A1;", -1000109, 1);
        shipIs("s5,9,1;a1;a1;a1;a1;a1;a1;a1;", -1000125, 3);
        shipIs("s5,9,1;a1;a1;a1;a1;a1;a1;w", -1000125, 3);
        shipIs("s5,9,1;a1;a1;a1;a1;a1;a1;b1;", -1000125, 1);
        shipIs("s5,9,1;a1;a1;a1;a1;a1;a1;1", -1000125, 1);
        shipIs("s5,9,1;a1;a1;a1;a1;a1;a0;a1;", -1000123, 2);
        shipIs("s5,9,1;a1;a1;a1;a1;a1;a1;", 6, 0);
        shipIs("s5,9,1;a1;a1;" + (char) 233, -1000113, 1);
        shipIs("s5,9,1;a1;a1;" + (char) 0, -1000113, 1);
        StormLots x = Check.told("s5,9,1;a1;a1;a1;a1;a1;a1;");
        x.cast(3);
        x.cargo();
        x.throwOver(0, 1);
        due("in place of it", told(x, "s9,3,1;g7;r2;"), 2);
        due("aboard", x.count(2), 2);
        due("draw", x.count(3), 1);
        due("hour", x.sea(0), 0);
        due("sinks", x.sea(1), 3);
        due("storms", x.sea(2), 1);
        due("lots", x.sea(3), 0);
        due("likelihood", x.likelihood(0), 7);
        due("no longer", x.likelihood(2), BAD);
    }

    private static void faults() {
        at(8);
        StormLots x = new StormLots();
        due("before one", x.fault(), 0);
        Check.feed(x, "s1,1,1;a1;");
        due("ship", x.ship(), 1);
        due("none yet", x.fault(), 0);
        Check.feed(x, "s11,");
        due("ship", x.ship(), -1000101);
        due("fault", x.fault(), 2);
        Check.feed(x, "s1,1,1;a1;");
        due("ship", x.ship(), 1);
        due("the latest stays", x.fault(), 2);
        due("ship", x.ship(), -1000100);
        due("the latest", x.fault(), 1);
    }

    private static void undoes() {
        at(9);
        StormLots x = Check.told("s6,20,4;a3;g2;w1;");
        due("none", x.undo(), STATE);
        x.cargo();
        x.joins(1);
        x.cast(0);
        x.throwOver(0, 0);
        x.hour();
        x.throwOver(2, 1);
        due("still", x.undo(), 5);
        due("storms", x.sea(2), 1);
        due("aboard", x.person(2, 1), 1);
        due("hours", x.sea(0), 3);
        due("an hour", x.undo(), 4);
        due("hours", x.sea(0), 2);
        due("thrown", x.undo(), 3);
        due("aboard", x.person(0, 1), 1);
        due("draws", x.person(0, 2), 1);
        due("likelihood", x.likelihood(0), 3 * 16);
        due("a lot", x.undo(), 2);
        due("likelihood", x.likelihood(0), 3);
        due("likelihood", x.likelihood(2), 2);
        due("lots", x.sea(3), 0);
        due("hours", x.sea(0), 0);
        due("joined", x.undo(), 1);
        due("draws", x.person(1, 2), 0);
        due("cargo", x.undo(), 0);
        due("cargo", x.sea(4), 0);
        due("sinks", x.sea(1), 20);
        due("none", x.undo(), STATE);
        for (int i = 0; i < 3; i++) {
            x.cargo();
        }
        for (int i = 1; i <= 22; i++) {
            due("hour", x.hour(), i);
            due("acts", x.count(4), Math.min(24, 3 + i));
        }
        due("the last hour", x.hour(), 23);
        due("sunk", x.sea(2), 2);
        for (int i = 23; i >= 0; i--) {
            due("undo", x.undo(), i);
        }
        due("forgotten", x.undo(), STATE);
        due("two were forgotten", x.sea(4), 2);
        due("hours", x.sea(0), 0);
        x.hour();
        due("new ship", told(x, "s1,1,0;a1;"), 1);
        due("none", x.undo(), STATE);
    }

    private static int told(StormLots x, String text) {
        Check.feed(x, text);
        return x.ship();
    }

    private static void casts() {
        at(10);
        StormLots x = Check.told("s6,9,4;a3;o5;r1;g4;w2;");
        due("-1", x.cast(-1), BAD);
        due("5", x.cast(5), BAD);
        due("does not draw", x.cast(3), STATE);
        due("cast", x.cast(0), 1);
        due("named", x.likelihood(0), 3 * (3 * 6 + 4));
        due("sworn", x.likelihood(1), 5 * 7);
        due("priest", x.likelihood(2), 5);
        due("passenger", x.likelihood(3), 40);
        due("stowaway", x.likelihood(4), 40);
        due("hour", x.sea(0), 1);
        due("storms", x.sea(2), 1);
        due("cast", x.cast(1), 2);
        due("sworn named", x.likelihood(1), 35 * (3 * 3 + 7));
        due("cast", x.cast(2), 3);
        due("priest named", x.likelihood(2), 5 * 5 * (3 * 5 + 5));
        due("cast", x.cast(2), 4);
        due("four", x.cast(2), FULL);
        due("STATE ahead of FULL", x.cast(3), STATE);
        due("hours", x.sea(0), 4);
        x = Check.told("s10,9,0;a1;a1;");
        x.cast(1);
        due("all would be 0", x.cast(0), STATE);
        due("nothing changed", x.likelihood(1), 20);
        due("acts", x.count(4), 1);
        x = Check.told("s10,1,0;a1;");
        due("cast", x.cast(0), 1);
        due("sunk", x.cast(0), STATE);
        due("BAD ahead", x.cast(1), BAD);
        x = Check.told("s3,9,0;a1;");
        x.throwOver(0, 1);
        due("still", x.cast(0), STATE);
        x = Check.told("s0,9,0;r4;o1;");
        due("cast", x.cast(0), 1);
        due("a priest is not below 0", x.likelihood(0), 40);
        due("sworn", x.likelihood(1), 10);
        x = Check.told("s5,9,0;a1;a1;g1;");
        x.throwOver(0, 0);
        due("not aboard", x.cast(0), STATE);
        due("cast", x.cast(1), 1);
        due("one draws", x.likelihood(1), 10);
    }

    private static void throwsOver() {
        at(11);
        StormLots x = Check.told("s6,9,4;a3;o5;r1;g4;w2;");
        due("-1", x.throwOver(-1, 0), BAD);
        due("5", x.throwOver(5, 0), BAD);
        due("still -1", x.throwOver(0, -1), BAD);
        due("still 2", x.throwOver(0, 2), BAD);
        due("storms on", x.throwOver(3, 0), 4);
        due("likelihood", x.likelihood(3), 0);
        due("others", x.likelihood(0), 3);
        due("aboard", x.person(3, 1), 0);
        due("hour", x.sea(0), 1);
        due("storms", x.sea(2), 1);
        due("not aboard", x.throwOver(3, 0), STATE);
        due("lies still", x.throwOver(0, 1), 3);
        due("by 20", x.likelihood(0), 60);
        due("by DROP", x.likelihood(1), 20);
        due("by DROP", x.likelihood(4), 16);
        due("0 stays", x.likelihood(3), 0);
        due("lies still", x.sea(2), 0);
        due("hours", x.sea(0), 2);
        due("storms no more", x.throwOver(1, 0), STATE);
        due("BAD ahead", x.throwOver(1, 2), BAD);
        x = Check.told("s6,9,0;a3;a5;");
        x.throwOver(0, 0);
        due("all would be 0", x.throwOver(1, 0), STATE);
        due("the last", x.throwOver(1, 1), 0);
        due("nobody", x.count(2), 0);
        x = Check.told("s10,9,0;a3;a5;");
        x.cast(0);
        due("it cannot be by that one", x.throwOver(1, 1), STATE);
        due("it can be none else", x.throwOver(0, 0), STATE);
        due("acts", x.count(4), 1);
        x = Check.told("s10,9,1;a3;a5;");
        x.cast(0);
        due("by itself", x.throwOver(1, 1), 1);
        due("the one is aboard", x.belief(0, 0), 1);
        x = Check.told("s6,9,10;a1;a2;");
        due("by 20 and by 10", x.throwOver(0, 1), 1);
        due("as likely as not", x.belief(0, 1), 2);
        x = Check.told("s10,1,1;a3;a5;");
        due("in the last hour", x.throwOver(1, 0), 1);
        due("sunk", x.sea(2), 2);
        due("sunk", x.throwOver(0, 1), STATE);
    }

    private static void throwsCargo() {
        at(12);
        StormLots x = Check.told("s6,1,4;a3;");
        due("1", x.cargo(), 1);
        due("2", x.cargo(), 2);
        due("3", x.cargo(), 3);
        due("4", x.cargo(), FULL);
        due("no hour", x.sea(0), 0);
        due("sinks", x.sea(1), 4);
        x.hour();
        x.hour();
        x.hour();
        due("storms", x.sea(2), 1);
        x.hour();
        due("sunk", x.sea(2), 2);
        due("sunk", x.cargo(), STATE);
        x = Check.told("s6,1,4;a3;");
        x.hour();
        due("too late", x.cargo(), STATE);
        x.undo();
        x.throwOver(0, 1);
        due("still", x.cargo(), STATE);
    }

    private static void waits() {
        at(13);
        StormLots x = Check.told("s6,2,4;a3;a4;");
        due("1", x.hour(), 1);
        due("no likelihood is other", x.likelihood(0), 3);
        due("2", x.hour(), 2);
        due("sunk", x.sea(2), 2);
        due("sunk", x.hour(), STATE);
        x.undo();
        x.throwOver(0, 1);
        due("still", x.hour(), STATE);
    }

    private static void joinsLots() {
        at(14);
        StormLots x = Check.told("s6,9,4;a3;g1;w1;");
        due("-1", x.joins(-1), BAD);
        due("3", x.joins(3), BAD);
        due("draws", x.joins(0), STATE);
        due("passenger", x.joins(1), 2);
        due("again", x.joins(1), STATE);
        due("stowaway", x.joins(2), 3);
        due("no hour", x.sea(0), 0);
        due("truth", x.person(2, 3), 6);
        x.undo();
        x.throwOver(2, 0);
        due("not aboard", x.joins(2), STATE);
        x.throwOver(0, 0);
        due("not aboard", x.joins(0), STATE);
        x = Check.told("s6,1,4;a3;g1;");
        x.hour();
        due("sunk", x.joins(1), STATE);
        x.undo();
        x.throwOver(0, 1);
        due("still", x.joins(1), STATE);
    }

    private static void persons() {
        at(15);
        StormLots x = Check.told("s7,9,4;a9;o1;r2;g3;w4;");
        int[][] dues = {{9, 1, 1, 7}, {1, 1, 1, 3}, {2, 1, 1, 6}, {3, 1, 0, 0}, {4, 1, 0, 0}};
        for (int p = 0; p < 5; p++) {
            for (int what = 0; what < 4; what++) {
                due("person " + p + " " + what, x.person(p, what), dues[p][what]);
            }
        }
        due("what -1", x.person(0, -1), BAD);
        due("what 4", x.person(0, 4), BAD);
        due("-1", x.person(-1, 0), BAD);
        due("5", x.person(5, 0), BAD);
        x.throwOver(0, 0);
        due("weight stays", x.person(0, 0), 9);
        due("not aboard", x.person(0, 1), 0);
        due("does not draw", x.person(0, 2), 0);
        due("no truth", x.person(0, 3), 0);
        x.throwOver(1, 1);
        due("when it is over", x.person(2, 3), 6);
    }

    private static void seas() {
        at(16);
        StormLots x = Check.told("s7,9,4;a9;");
        x.cargo();
        x.cargo();
        x.cast(0);
        x.hour();
        int[] dues = {2, 11, 1, 1, 2};
        for (int what = 0; what < 5; what++) {
            due("sea " + what, x.sea(what), dues[what]);
        }
        due("what -1", x.sea(-1), BAD);
        due("what 5", x.sea(5), BAD);
    }

    private static void likelihoods() {
        at(17);
        StormLots x = Check.told("s10,9,19;a9;w9;g9;a1;a1;a1;");
        due("weight", x.likelihood(0), 9);
        due("stowaway", x.likelihood(1), 18);
        due("-1", x.likelihood(-1), BAD);
        due("6", x.likelihood(6), BAD);
        x.joins(1);
        x.joins(2);
        for (int i = 0; i < 4; i++) {
            x.cast(1);
        }
        x.throwOver(1, 1);
        due("most", x.likelihood(1), 18L * 60 * 60 * 60 * 60 * 20);
        due("none", x.likelihood(0), 0);
    }

    private static void fractionIs(String what, long above, long below, long wantAbove, long wantBelow) {
        due(what + " above", above, wantAbove);
        due(what + " below", below, wantBelow);
    }

    private static void beliefs() {
        at(18);
        StormLots x = Check.told("s6,9,4;a2;w1;g4;");
        fractionIs("2 of 8", x.belief(0, 0), x.belief(0, 1), 1, 4);
        fractionIs("2 of 8", x.belief(1, 0), x.belief(1, 1), 1, 4);
        fractionIs("4 of 8", x.belief(2, 0), x.belief(2, 1), 1, 2);
        due("what -1", x.belief(0, -1), BAD);
        due("what 2", x.belief(0, 2), BAD);
        due("3", x.belief(3, 0), BAD);
        due("-1", x.belief(-1, 0), BAD);
        x.throwOver(0, 0);
        fractionIs("0", x.belief(0, 0), x.belief(0, 1), 0, 1);
        fractionIs("2 of 6", x.belief(1, 0), x.belief(1, 1), 1, 3);
        x.throwOver(1, 1);
        fractionIs("40 of 56", x.belief(1, 0), x.belief(1, 1), 5, 7);
    }

    private static void likeliests() {
        at(19);
        StormLots x = Check.told("s6,9,0;a4;w2;g4;a3;");
        due("the first", x.likeliest(), 0);
        x.throwOver(0, 0);
        due("the next", x.likeliest(), 1);
        x.cast(3);
        due("by a lot", x.likeliest(), 1);
        x.throwOver(3, 1);
        due("aboard, all 0", x.likeliest(), 1);
        x = Check.told("s6,9,0;a4;");
        x.throwOver(0, 1);
        due("nobody", x.likeliest(), NONE);
    }

    private static void nameds() {
        at(20);
        StormLots x = Check.told("s6,9,4;a2;o1;g1;");
        // of 10 * 2 * 4: 2 * (12 + 4) + 1 * 7 + 1 * 10; 2 * 4 + 1 * (6 + 7) + 10
        fractionIs("49 of 80", x.named(0, 0), x.named(0, 1), 49, 80);
        fractionIs("31 of 80", x.named(1, 0), x.named(1, 1), 31, 80);
        fractionIs("does not draw", x.named(2, 0), x.named(2, 1), 0, 1);
        due("what 2", x.named(0, 2), BAD);
        due("what -1", x.named(0, -1), BAD);
        due("3", x.named(3, 0), BAD);
        x.throwOver(0, 1);
        // likelihoods 40, 4, 4, one draws
        fractionIs("only one draws", x.named(1, 0), x.named(1, 1), 1, 1);
        x = Check.told("s6,9,4;w2;");
        due("nobody draws", x.named(0, 0), STATE);
        due("BAD ahead", x.named(0, 2), BAD);
    }

    private static void tellings() {
        at(21);
        StormLots x = Check.told("s10,9,4;a4;a4;g5;");
        due("by each another", x.tells(), 3);
        due("nothing changed", x.likelihood(2), 5);
        x = Check.told("s10,9,4;a1;a1;g9;");
        due("by none another", x.tells(), 0);
        x = Check.told("s0,9,4;a1;a1;g9;");
        due("lots that tell nothing", x.tells(), 0);
        x = Check.told("s10,9,4;a1;a1;");
        due("by 1", x.tells(), 2);
        x.cast(0);
        due("1 can not be named", x.tells(), 0);
        x = Check.told("s5,9,4;g1;");
        due("nobody draws", x.tells(), STATE);
    }

    private static void savedIs(StormLots x, int h, long above, long below, int best) {
        due("saved " + h + " above", x.saved(h, 0), above);
        due("saved " + h + " below", x.saved(h, 1), below);
        due("saved " + h + " best", x.saved(h, 2), best);
    }

    private static void savings() {
        at(22);
        StormLots x = Check.told("s10,9,4;a1;a1;");
        savedIs(x, 1, 3, 5, 2);
        // wait, cast: 1/5 + 4/5 (3/5, 1); throw: 1/2 + 1/2 (1/5 + 4/5) = 1
        savedIs(x, 2, 1, 1, 1);
        x = Check.told("s0,9,4;a1;a1;");
        savedIs(x, 2, 1, 1, 2);
        x = Check.told("s10,9,0;a1;a1;a1;");
        savedIs(x, 1, 1, 3, 2);
        savedIs(x, 2, 1, 1, 1);
        x.cast(0);
        savedIs(x, 1, 1, 1, 2);
        savedIs(x, 2, 1, 1, 0);
        x = Check.told("s10,1,0;a1;a1;a1;");
        savedIs(x, 2, 1, 3, 2);
        x.cargo();
        savedIs(x, 2, 1, 1, 1);
        x = Check.told("s0,9,0;a1;a1;a1;");
        for (int i = 0; i < 4; i++) {
            x.cast(0);
        }
        savedIs(x, 2, 2, 3, 2);
        due("h 0", x.saved(0, 0), BAD);
        due("h 3", x.saved(3, 0), BAD);
        due("what -1", x.saved(1, -1), BAD);
        due("what 3", x.saved(1, 3), BAD);
        due("nothing changed", x.sea(3), 4);
        x.throwOver(0, 1);
        due("still", x.saved(1, 0), STATE);
        due("BAD ahead", x.saved(3, 0), BAD);
        x.undo();
        for (int i = 0; i < 5; i++) {
            x.hour();
        }
        due("sunk", x.saved(1, 0), STATE);
        x = Check.told("s10,9,0;a1;a1;a1;");
        x.cast(2);
        for (int i = 0; i < 3; i++) {
            x.cast(2);
        }
        savedIs(x, 1, 1, 1, 4);
        x = Check.told("s9,9,0;g1;g1;");
        savedIs(x, 2, 1, 1, 2);
        x = Check.told("s0,9,10;a1;a3;a2;");
        // 1/2 + 1/2 * 1/2; 1/2 + 1/2 * (1/2 + 1/2 * (2/3 + 1/3 * 1/2))
        savedIs(x, 1, 3, 4, 3);
        savedIs(x, 2, 23, 24, 3);
    }

    private static void sures() {
        at(23);
        StormLots x = Check.told("s5,1,4;a1;a1;g2;");
        // belief of 0: 1/4; then 15, 5, 20: 15/40; 225, 25, 200: 1/2; 3375, 125, 2000: 3375/5500; 50625/71250
        due("25", x.sure(0, 25), 0);
        due("26", x.sure(0, 26), 1);
        due("37", x.sure(0, 37), 1);
        due("38", x.sure(0, 38), 2);
        due("50", x.sure(0, 50), 2);
        due("61", x.sure(0, 61), 3);
        due("62", x.sure(0, 62), 4);
        due("71", x.sure(0, 71), 4);
        due("72", x.sure(0, 72), NONE);
        due("a 0", x.sure(0, 0), BAD);
        due("a 100", x.sure(0, 100), BAD);
        due("3", x.sure(3, 50), BAD);
        due("-1", x.sure(-1, 50), BAD);
        due("does not draw", x.sure(2, 50), STATE);
        x.hour();
        due("sunk", x.sure(0, 26), 1);
        x.undo();
        x.throwOver(1, 1);
        due("still", x.sure(0, 26), STATE);
        x = Check.told("s10,9,0;a1;a1;");
        due("by one", x.sure(1, 99), 1);
        x.cast(0);
        due("can not be named", x.sure(1, 1), NONE);
        for (int i = 0; i < 3; i++) {
            x.cast(0);
        }
        due("whatever were cast", x.sure(0, 99), 0);
    }

    private static void prices() {
        at(24);
        StormLots x = Check.told("s6,9,4;a2;o1;g1;w9;");
        // named: 0: (32 + 7 + 10 + 180) / 440; with 2: m 3: (2 * 22 + 7 + 4 + 180) / 660
        due("all", x.price(0, 999, -1), 999 * 229 / 440);
        due("less", x.price(0, 999, 2), 999 * 229 / 440 - 999 * 235 / 660);
        due("none", x.price(0, 0, -1), 0);
        due("purse -1", x.price(0, -1, -1), BAD);
        due("purse 1000", x.price(0, 1000, -1), BAD);
        due("4", x.price(4, 10, -1), BAD);
        due("other -2", x.price(0, 10, -2), BAD);
        due("other 4", x.price(0, 10, 4), BAD);
        due("does not draw", x.price(2, 10, -1), STATE);
        due("other draws", x.price(0, 10, 1), STATE);
        due("itself", x.price(0, 10, 0), STATE);
        x.throwOver(2, 0);
        due("other is not aboard", x.price(0, 10, 2), STATE);
        x.throwOver(1, 1);
        due("when it is over", x.price(0, 999, -1), 999);
        due("nothing changed", x.count(3), 1);
    }

    private static void voyages() {
        at(25);
        StormLots x = Check.told("s6,9,4;a2;o1;g1;w9;");
        int[] items = {15, 1, 3, 1, 8, 0, 5, 1, 0, 0, 1, 1};
        x.row(0, 0, 40);
        for (int i = 0; i < items.length; i++) {
            x.set(0, i, items[i]);
        }
        due("all", x.been(0, 0, 1, 0), 15);
        due("all by none", x.been(0, 0, 1, 1), 0);
        due("two", x.been(0, 0, 2, 0), 3);
        due("by one", x.been(0, 0, 2, 1), 1);
        due("not aboard, no storm", x.been(0, 4, 1, 0), 7);
        due("0 alone", x.been(0, 0, 5, 0), 1);
        due("by two", x.been(0, 0, 5, 1), 2);
        due("0 alone", x.been(0, 0, 6, 0), 1);
        due("by the last", x.been(0, 0, 6, 1), 1);
        due("ten", x.been(0, 20, 10, 0), 15);
        due("from an odd place", x.been(0, 1, 1, 0), BAD);
        x.set(0, 12, 1);
        x.set(0, 13, 0);
        due("nobody", x.been(0, 0, 7, 0), 0);
        due("by two", x.been(0, 0, 7, 1), 2);
        due("row 8", x.been(8, 0, 1, 0), BAD);
        due("n 0", x.been(0, 0, 0, 0), BAD);
        due("n 11", x.been(0, 0, 11, 0), BAD);
        due("what 2", x.been(0, 0, 1, 2), BAD);
        due("what -1", x.been(0, 0, 1, -1), BAD);
        due("missing", x.been(1, -1, 1, 0), NULL);
        due("place -1", x.been(0, -1, 1, 0), PLACE);
        due("beyond", x.been(0, 39, 1, 0), PLACE);
        due("beyond", x.been(0, 21, 10, 0), PLACE);
        due("max", x.been(0, MAX, 1, 0), PLACE);
        x.set(0, 14, 16);
        due("no set", x.been(0, 14, 1, 0), BAD);
        x.set(0, 14, -1);
        due("no set", x.been(0, 14, 1, 0), BAD);
        x.set(0, 14, 1);
        x.set(0, 15, 2);
        due("neither 1 nor 0", x.been(0, 14, 1, 0), BAD);
        x.set(0, 15, -1);
        due("neither 1 nor 0", x.been(0, 0, 8, 0), BAD);
        x.throwOver(0, 0);
        due("of all, whatever is known", x.been(0, 0, 5, 0), 1);
        x.throwOver(1, 1);
        due("when it is over", x.been(0, 0, 5, 0), 1);
    }

    private static void stormIs(StormLots x, int a, int seed, int innocents, int hours, int how) {
        due("storm " + a + " innocents", x.storm(a, seed, 0), innocents);
        due("storm " + a + " hours", x.storm(a, seed, 1), hours);
        due("storm " + a + " how", x.storm(a, seed, 2), how);
    }

    private static void storms() {
        at(26);
        // draws behind 1: 16807, 282475249, 1622650073, 984943658
        StormLots x = Check.told("s10,3,0;a1;a1;");
        stormIs(x, 100, 1, 0, 2, 1);
        stormIs(x, 51, 1, 0, 2, 1);
        stormIs(x, 50, 1, 1, 2, 1);
        x = Check.told("s10,1,0;a1;a1;");
        stormIs(x, 50, 1, 1, 1, 0);
        stormIs(x, 51, 1, 0, 1, 0);
        x = Check.told("s10,3,10;a1;a1;");
        stormIs(x, 50, 1, 1, 1, 1);
        x = Check.told("s10,3,9;a1;a1;");
        stormIs(x, 50, 1, 1, 2, 1);
        // a lot that is not true names 0 by 28247524, even: 0 is thrown, then 1
        x = Check.told("s9,20,0;a1;a1;");
        stormIs(x, 60, 1, 1, 3, 1);
        // 7, the rest by 8, falls to 4; a lot that is not true names the one at place 4, the rest of 28247524 by 5
        x = Check.told("s9,2,0;a1;a1;a1;a1;a4;");
        stormIs(x, 80, 1, 0, 2, 1);
        x = Check.told("s9,9,0;g1;g1;");
        stormIs(x, 100, 1, 1, 2, 1);
        x.hour();
        stormIs(x, 100, 1, 1, 2, 1);
        due("nothing changed", x.sea(0), 1);
        due("nothing changed", x.count(2), 2);
        due("a 0", x.storm(0, 1, 0), BAD);
        due("a 101", x.storm(101, 1, 0), BAD);
        due("seed 0", x.storm(1, 0, 0), BAD);
        due("seed 1000000", x.storm(1, 1000000, 0), BAD);
        due("what -1", x.storm(1, 1, -1), BAD);
        due("what 3", x.storm(1, 1, 3), BAD);
        x.throwOver(0, 1);
        due("still", x.storm(1, 1, 0), STATE);
        due("BAD ahead", x.storm(0, 1, 0), BAD);
        x = Check.told("s9,1,0;g1;g1;");
        x.hour();
        due("sunk", x.storm(1, 1, 0), STATE);
        x = Check.told("s0,20,0;a1;a1;");
        // four lots that tell nothing, then both
        stormIs(x, 51, 1, 1, 6, 1);
        x.cast(0);
        x.cast(0);
        x.cast(0);
        // 16807 by 2000 falls to 0 now
        stormIs(x, 51, 1, 0, 2, 1);
    }

    private static void images() {
        at(27);
        StormLots x = Check.told("s10,3,0;a1;w4;");
        due("-1", x.image(-1), BAD);
        due("2", x.image(2), BAD);
        due("0", x.image(0), 1);
        x.joins(1);
        x.cast(1);
        due("1", x.image(1), 1);
        due("acts stay", x.count(4), 2);
        due("0 as it was", x.restore(0), 1);
        due("no lot", x.sea(3), 0);
        due("1 as it was", x.restore(1), 1);
        due("a lot", x.sea(3), 1);
        due("kept anew", x.image(0), 1);
        x.hour();
        due("the new one", x.restore(0), 1);
        due("a lot", x.sea(3), 1);
    }

    private static void restores() {
        at(28);
        StormLots x = Check.told("s10,3,2;a1;w4;");
        due("none", x.restore(0), STATE);
        due("-1", x.restore(-1), BAD);
        due("2", x.restore(2), BAD);
        x.cargo();
        x.joins(1);
        x.throwOver(0, 0);
        x.image(1);
        x.throwOver(1, 1);
        told(x, "s1,1,1;r1;r2;r3;");
        due("restore", x.restore(1), 1);
        due("people", x.count(1), 2);
        due("aboard", x.count(2), 1);
        due("draw", x.count(3), 1);
        due("acts", x.count(4), 0);
        due("none to undo", x.undo(), STATE);
        due("storms", x.sea(2), 1);
        due("hour", x.sea(0), 1);
        due("sinks", x.sea(1), 4);
        due("kind", x.kind(1), 5);
        due("weight", x.person(1, 0), 4);
        due("truth", x.person(1, 3), 10);
        due("likelihood", x.likelihood(1), 8);
        due("likelihood", x.likelihood(0), 0);
        due("another", x.restore(0), STATE);
        x.hour();
        due("undo", x.undo(), 0);
        due("hour", x.sea(0), 1);
        x.hour();
        due("restore", x.restore(1), 1);
        due("hour", x.sea(0), 1);
        due("none to undo", x.undo(), STATE);
    }

    private static void kinds() {
        at(29);
        StormLots x = Check.told("s10,3,2;a1;o1;r1;g1;w1;");
        for (int p = 0; p < 5; p++) {
            due("kind", x.kind(p), p + 1);
        }
        due("-1", x.kind(-1), BAD);
        due("5", x.kind(5), BAD);
    }

    private static void asKinds() {
        at(30);
        StormLots x = Check.told("s10,3,2;a1;o1;r1;g1;w1;");
        String[] is = {"110000", "111000", "110100", "100010", "100011"};
        for (int p = 0; p < 5; p++) {
            for (int k = 0; k < 6; k++) {
                boolean it = is[p].charAt(k) == '1';
                due("as " + p + " " + k, x.as(p, k), it ? p : KIND);
                due("status", x.status(), it ? 0 : 3);
            }
        }
        due("kind -1", x.as(0, -1), BAD);
        due("kind 6", x.as(0, 6), BAD);
        due("-1", x.as(-1, 0), BAD);
        due("5", x.as(5, 0), BAD);
    }

    private static void askIs(StormLots x, int one, int what, int want, int... trace) {
        due("ask " + one + " " + what, x.ask(one, what), want);
        for (int i = 0; i < trace.length; i++) {
            due("trace of " + one + " " + what, x.trace(i), trace[i]);
        }
        due("end of trace", x.trace(trace.length), NONE);
    }

    private static void asks() {
        at(31);
        StormLots x = Check.told("s7,9,2;a1;o2;r3;g4;w5;");
        askIs(x, 0, 0, 1 + 7, 11, 10, 21, 20);
        askIs(x, 0, 1, 7, 21, 20);
        askIs(x, 1, 0, -(2 + 2 * (1 + 3)), 12, 11, 10, 24, 21, 20);
        askIs(x, 1, 1, 2 * (1 + 3), 24, 21, 20);
        askIs(x, 2, 0, 3 + 2 + 6 - 1000, 11, 10, 22, 21, 20);
        askIs(x, 2, 1, 2 + 6 - 1000, 22, 21, 20);
        askIs(x, 3, 0, -96, 13, 10);
        askIs(x, 3, 1, 3 + 96, 23, 20, 13, 10);
        askIs(x, 4, 0, -190, 14, 13, 10);
        askIs(x, 4, 1, 4 + 190, 23, 20, 14, 13, 10);
        due("what -1", x.ask(0, -1), BAD);
        due("what 2", x.ask(0, 2), BAD);
        due("5", x.ask(5, 0), BAD);
        due("-1", x.ask(-1, 0), BAD);
        due("the trace stays", x.trace(0), 23);
        x.throwOver(0, 0);
        askIs(x, 0, 1, 0, 21, 20);
    }

    private static void traces() {
        at(32);
        StormLots x = Check.told("s7,9,2;o2;");
        due("before an ask", x.trace(0), NONE);
        x.ask(0, 0);
        due("0", x.trace(0), 12);
        due("5", x.trace(5), 20);
        due("6", x.trace(6), NONE);
        due("-1", x.trace(-1), NONE);
        due("16", x.trace(16), NONE);
        due("max", x.trace(MAX), NONE);
        due("min", x.trace(MIN), NONE);
    }

    private static void counts() {
        at(33);
        StormLots x = Check.told("s7,9,2;o2;a1;g3;");
        x.row(3, 0, 0);
        x.row(5, 1, 9);
        x.row(5, 2, 9);
        x.cargo();
        x.throwOver(0, 0);
        x.feed('s');
        int[] dues = {2, 3, 2, 1, 2, 1};
        for (int what = 0; what < 6; what++) {
            due("count " + what, x.count(what), dues[what]);
        }
        x.drop(3);
        due("rows", x.count(0), 1);
        x.row(0, 1, 1);
        x.row(7, 1, 1);
        due("rows", x.count(0), 3);
        due("what -1", x.count(-1), BAD);
        due("what 6", x.count(6), BAD);
    }

    private static void statusIs(StormLots x, long answer, int want) {
        due("status behind " + answer, x.status(), want);
    }

    private static void statuses() {
        at(34);
        StormLots x = new StormLots();
        statusIs(x, x.row(0, 0, -1), 4);
        statusIs(x, x.row(8, 0, 0), 4);
        statusIs(x, x.count(0), 4);
        statusIs(x, x.been(0, 0, 1, 0), 4);
        statusIs(x, x.row(0, 0, 4), 0);
        statusIs(x, x.set(1, 0, 0), 1);
        statusIs(x, x.set(0, 0, 0), 0);
        statusIs(x, x.set(0, 4, 0), 2);
        statusIs(x, x.set(8, 4, 0), 2);
        statusIs(x, x.copy(0, 0, 0, 2, 2), 0);
        statusIs(x, x.row(1, 1, 4), 0);
        statusIs(x, x.copy(0, 0, 1, 2, 2), 5);
        statusIs(x, x.drop(1), 0);
        statusIs(x, x.drop(1), 1);
        told(x, "s7,9,2;o2;");
        statusIs(x, 0, 1);
        statusIs(x, x.as(0, 4), 3);
        statusIs(x, x.as(0, 6), 3);
        statusIs(x, x.kind(0), 3);
        statusIs(x, x.as(0, 1), 0);
        statusIs(x, x.been(0, 3, 1, 0), 2);
        statusIs(x, x.been(0, 0, 1, 0), 0);
        x.set(0, 0, 2);
        statusIs(x, x.been(7, 0, 1, 0), 1);
        statusIs(x, x.been(0, 0, 1, 0), 1);
        statusIs(x, x.been(0, 2, 1, 0), 0);
    }
}
