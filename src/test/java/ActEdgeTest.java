/** Each sentence of the document that names a boundary case of what is done (Terms 2, promises 9 to 17). */
public final class ActEdgeTest {
    private static final int BAD = -1000001, STATE = -1000002, FULL = -1000003;
    private static final int MIN = Integer.MIN_VALUE, MAX = Integer.MAX_VALUE;
    private static final int[] NOBODY = {-1, 6, 32, 33, MIN, MAX};
    private static final Check check = new Check();

    private ActEdgeTest() {
    }

    private static void due(String call, long got, long want) {
        check.due(call, got, want);
    }

    private static void says(String sentence) {
        check.where = sentence;
    }

    public static void main(String[] args) {
        likelihoodsAtFirst();
        whoDraws();
        truths();
        lotsMultiply();
        lotOfOneAlone();
        lotsWhenTheOneDoesNotDraw();
        sinksBehindHour();
        sinksByCargo();
        savedFromSinking();
        likelihoodsByHours();
        twentyFourActs();
        actsGoRound();
        eachActIsUndone();
        undoneLatestFirst();
        undoNone();
        undoWhenItIsOver();
        castIsBad();
        castByOneWhoDoesNotDraw();
        castOfWhatCannotBe();
        fourLots();
        castWhenItIsOver();
        throwIsBad();
        throwOfOneNotAboard();
        throwOfWhatCannotBe();
        throwWhenItIsOver();
        stillByThatOne();
        cargoThreeTimes();
        cargoWhenItIsOver();
        hourWhenItIsOver();
        joinsIsBad();
        joinsOfOneWhoDraws();
        joinsWhenItIsOver();
        personIsBad();
        personWhoDoesNotDraw();
        seaWithoutShip();
        seaOfThree();
        likelihoodIsBad();
        likelihoodsAtMost();
        noShip();
        check.end();
    }

    private static StormLots still() {
        StormLots x = Check.told("s6,9,4;a3;o5;r1;g4;w2;a7;");
        x.throwOver(0, 1);
        return x;
    }

    private static StormLots sunk() {
        StormLots x = Check.told("s6,1,4;a3;o5;r1;g4;w2;a7;");
        x.hour();
        return x;
    }

    private static void likelihoodsAre(StormLots x, long... dues) {
        for (int p = 0; p < dues.length; p++) {
            due("likelihood of " + p, x.likelihood(p), dues[p]);
        }
    }

    private static void likelihoodsAtFirst() {
        says("LIKELIHOODS: of each at first WEIGHT, of a stowaway twice that; 0 of one who is known not to be it");
        StormLots x = Check.told("s5,9,1;a1;o9;r2;g3;w1;w9;");
        likelihoodsAre(x, 1, 9, 2, 3, 2, 18);
        x.throwOver(5, 0);
        likelihoodsAre(x, 1, 9, 2, 3, 2, 0);
        x.cast(0);
        due("0 stays 0", x.likelihood(5), 0);
        x.throwOver(0, 1);
        due("0 stays 0", x.likelihood(5), 0);
    }

    private static void drawAre(StormLots x, int... dues) {
        int m = 0;
        for (int p = 0; p < dues.length; p++) {
            due("whether " + p + " draws", x.person(p, 2), dues[p]);
            m += dues[p];
        }
        due("how many draw", x.count(3), m);
    }

    private static void whoDraws() {
        says("Who DRAWS: each who is aboard, a passenger, a stowaway only if it took a lot");
        StormLots x = Check.told("s5,9,1;a1;o1;r1;g1;w1;");
        drawAre(x, 1, 1, 1, 0, 0);
        x.joins(4);
        drawAre(x, 1, 1, 1, 0, 1);
        x.joins(3);
        drawAre(x, 1, 1, 1, 1, 1);
        x.throwOver(0, 0);
        x.throwOver(4, 0);
        drawAre(x, 0, 1, 1, 1, 0);
        x.throwOver(1, 1);
        drawAre(x, 0, 0, 1, 1, 0);
        x = Check.told("s5,9,1;g1;w1;");
        drawAre(x, 0, 0);
    }

    private static void truths() {
        says("TRUTH of one who DRAWS: TRUE; of one who is sworn half (cut); of a priest 1 less, 0 at least");
        int[] sworn = {0, 0, 1, 1, 2, 2, 3, 3, 4, 4, 5};
        int[] priest = {0, 0, 1, 2, 3, 4, 5, 6, 7, 8, 9};
        for (int t = 0; t <= 10; t++) {
            StormLots x = Check.told("s" + t + ",9,1;a1;o1;r1;g1;w1;");
            due("sailor by " + t, x.person(0, 3), t);
            due("sworn by " + t, x.person(1, 3), sworn[t]);
            due("priest by " + t, x.person(2, 3), priest[t]);
            due("passenger by " + t, x.person(3, 3), 0);
            due("stowaway by " + t, x.person(4, 3), 0);
            x.joins(3);
            x.joins(4);
            due("passenger with a lot by " + t, x.person(3, 3), t);
            due("stowaway with a lot by " + t, x.person(4, 3), t);
        }
    }

    private static void lotsMultiply() {
        says("By a LOT that names j LIKELIHOODS are multiplied: of j itself by m times its TRUTH, and 10 less its TRUTH; "
            + "of another one who DRAWS by 10 less its TRUTH; of each other one by 10");
        int[] sworn = {0, 0, 1, 1, 2, 2, 3, 3, 4, 4, 5};
        int[] priest = {0, 0, 1, 2, 3, 4, 5, 6, 7, 8, 9};
        for (int t = 0; t <= 10; t++) {
            String text = "s" + t + ",9,1;a1;o1;r1;g1;w1;";
            StormLots x = Check.told(text);
            x.cast(0);
            likelihoodsAre(x, 3 * t + 10 - t, 10 - sworn[t], 10 - priest[t], 10, 20);
            x = Check.told(text);
            x.cast(1);
            likelihoodsAre(x, 10 - t, 3 * sworn[t] + 10 - sworn[t], 10 - priest[t], 10, 20);
            x = Check.told(text);
            x.cast(2);
            likelihoodsAre(x, 10 - t, 10 - sworn[t], 3 * priest[t] + 10 - priest[t], 10, 20);
            x = Check.told(text);
            x.joins(3);
            x.joins(4);
            x.cast(4);
            likelihoodsAre(x, 10 - t, 10 - sworn[t], 10 - priest[t], 10 - t, 2 * (5 * t + 10 - t));
        }
    }

    private static void lotOfOneAlone() {
        says("m of them: one who DRAWS alone is named by each LOT, which tells nothing");
        for (int t = 0; t <= 10; t++) {
            StormLots x = Check.told("s" + t + ",9,1;g3;a2;w4;");
            due("cast", x.cast(1), 1);
            likelihoodsAre(x, 30, 20, 80);
        }
    }

    private static void lotsWhenTheOneDoesNotDraw() {
        says("else (and if the one does not DRAW) each of them alike");
        StormLots x = Check.told("s10,9,1;a1;a1;g1;");
        x.cast(0);
        likelihoodsAre(x, 20, 0, 10);
        due("another lot names the other one", x.cast(1), 2);
        likelihoodsAre(x, 0, 0, 100);
        due("named", x.named(0, 0), 1);
        due("as often as the other one", x.named(0, 1), 2);
    }

    private static void sinksBehindHour() {
        says("She SINKS behind HOUR SINK, if it storms yet");
        for (int sink : new int[] {1, 2, 20}) {
            StormLots x = Check.told("s5," + sink + ",1;a1;a1;");
            for (int h = 1; h <= sink; h++) {
                due("storms ahead of hour " + h, x.sea(2), 1);
                due("hour", x.hour(), h);
            }
            due("sunk", x.sea(2), 2);
            due("no hour more", x.hour(), STATE);
            due("the hour", x.sea(0), sink);
        }
    }

    private static void sinksByCargo() {
        says("She SINKS behind HOUR SINK, and a CARGO more for each that was thrown (3 at most)");
        StormLots x = Check.told("s5,20,1;a1;a1;");
        for (int n = 1; n <= 3; n++) {
            due("cargo", x.cargo(), n);
            due("no hour goes by", x.sea(0), 0);
            due("sinks", x.sea(1), 20 + n);
        }
        for (int h = 1; h <= 23; h++) {
            due("storms", x.sea(2), 1);
            x.hour();
        }
        due("sunk behind hour 23", x.sea(2), 2);
        due("hour", x.sea(0), 23);
        x = Check.told("s5,2,1;a1;a1;");
        x.hour();
        x.cargo();
        x.hour();
        due("in the last hour it is not too late", x.sea(2), 1);
        x.hour();
        due("sunk", x.sea(2), 2);
    }

    private static void savedFromSinking() {
        says("She SINKS behind HOUR SINK, if it storms yet: not if it lies still in the last");
        StormLots x = Check.told("s5,1,1;a1;a1;");
        due("throw", x.throwOver(0, 1), 1);
        due("hour", x.sea(0), 1);
        due("lies still", x.sea(2), 0);
        x.undo();
        x.throwOver(0, 0);
        due("sunk by a throw", x.sea(2), 2);
        x.undo();
        x.cast(0);
        due("sunk by a lot", x.sea(2), 2);
    }

    private static void likelihoodsByHours() {
        says("no LIKELIHOOD is other by an HOUR");
        StormLots x = Check.told("s5,3,19;a1;w2;g3;");
        x.hour();
        x.hour();
        x.cargo();
        x.joins(2);
        likelihoodsAre(x, 1, 4, 3);
    }

    /** Some 32 acts: six take a lot, three times cargo, then hours. */
    private static StormLots ofManyActs(int n) {
        StormLots x = Check.told("s5,20,1;g1;g1;g1;g1;g1;g1;");
        for (int i = 0; i < n; i++) {
            if (i < 6) {
                x.joins(i);
            } else if (i < 9) {
                x.cargo();
            } else {
                x.hour();
            }
        }
        return x;
    }

    private static void twentyFourActs() {
        says("ACTS (24 at most are kept, of more the oldest is forgotten)");
        for (int n = 1; n <= 32; n++) {
            StormLots x = ofManyActs(n);
            int kept = Math.min(n, 24);
            due("kept of " + n, x.count(4), kept);
            for (int left = kept - 1; left >= 0; left--) {
                due("undo of " + n, x.undo(), left);
            }
            due("no more of " + n, x.undo(), STATE);
            int forgotten = n - kept;
            due("forgotten of " + n, x.count(3) + x.sea(4), forgotten);
            due("hours behind all of " + n, x.sea(0), 0);
        }
    }

    private static void actsGoRound() {
        says("24 at most are kept: also behind others that were undone");
        StormLots x = ofManyActs(30);
        for (int i = 0; i < 10; i++) {
            x.undo();
        }
        due("kept", x.count(4), 14);
        due("hours", x.sea(0), 11);
        for (int i = 0; i < 12; i++) {
            x.hour();
        }
        due("kept", x.count(4), 24);
        due("hours", x.sea(0), 23);
        for (int left = 23; left >= 0; left--) {
            due("undo", x.undo(), left);
            due("hours", x.sea(0), Math.max(0, left - 1));
        }
        due("none", x.undo(), STATE);
        due("eight were forgotten", x.count(3) + x.sea(4), 8);
    }

    private static StormLots acted(int deed) {
        StormLots x = Check.told("s6,9,4;a3;o5;r1;g4;w2;a7;");
        x.cargo();
        x.cast(1);
        switch (deed) {
            case 1: x.cast(0); break;
            case 2: x.throwOver(2, 0); break;
            case 3: x.throwOver(2, 1); break;
            case 4: x.cargo(); break;
            case 5: x.hour(); break;
            case 6: x.joins(4); break;
            default: return x;
        }
        due("deed " + deed + " is one act", x.count(4), 3);
        due("undone", x.undo(), 2);
        return x;
    }

    private static void eachActIsUndone() {
        says("each can be undone");
        for (int deed = 1; deed <= 6; deed++) {
            check.holds("all is as ahead of deed " + deed, Look.at(acted(deed)).equals(Look.at(acted(0))));
        }
    }

    private static void undoneLatestFirst() {
        says("each can be undone, the latest first");
        StormLots x = Check.told("s6,9,4;a3;o5;g1;");
        x.joins(2);
        x.cast(2);
        x.throwOver(0, 0);
        due("2", x.undo(), 2);
        due("thrown is undone", x.person(0, 1), 1);
        due("the lot stands", x.sea(3), 1);
        due("1", x.undo(), 1);
        due("the lot is undone", x.sea(3), 0);
        due("the joining stands", x.person(2, 2), 1);
        due("0", x.undo(), 0);
        due("the joining is undone", x.person(2, 2), 0);
    }

    private static void undoNone() {
        says("undo: STATE: none");
        StormLots x = new StormLots();
        due("no ship", x.undo(), STATE);
        Check.feed(x, "s6,9,4;a3;");
        x.ship();
        due("nothing done", x.undo(), STATE);
        x.hour();
        due("one", x.undo(), 0);
        due("no other", x.undo(), STATE);
        x.image(0);
        x.hour();
        x.restore(0);
        due("restored", x.undo(), STATE);
        x.hour();
        Check.feed(x, "s6,9,4;a3;");
        x.ship();
        due("another ship", x.undo(), STATE);
    }

    private static void undoWhenItIsOver() {
        says("each can be undone: also if it storms no more, or she has sunk");
        StormLots x = still();
        due("still", x.undo(), 0);
        due("storms", x.sea(2), 1);
        due("aboard", x.count(2), 6);
        x = sunk();
        due("sunk", x.undo(), 0);
        due("storms", x.sea(2), 1);
    }

    private static void castIsBad() {
        says("cast: BAD, ahead of STATE");
        StormLots x = Check.told("s6,9,4;a3;o5;r1;g4;w2;a7;");
        for (int p : NOBODY) {
            due("cast " + p, x.cast(p), BAD);
            due("still " + p, still().cast(p), BAD);
            due("sunk " + p, sunk().cast(p), BAD);
        }
        due("the last one", x.cast(5), 1);
        due("no such one of fewer", Check.told("s6,9,4;a3;").cast(1), BAD);
    }

    private static void castByOneWhoDoesNotDraw() {
        says("cast: STATE, also: it does not DRAW");
        StormLots x = Check.told("s6,9,4;a3;o5;r1;g4;w2;a7;");
        due("passenger", x.cast(3), STATE);
        due("stowaway", x.cast(4), STATE);
        x.joins(3);
        due("a passenger who does", x.cast(3), 1);
        x.throwOver(3, 0);
        due("thrown", x.cast(3), STATE);
        x.throwOver(0, 0);
        due("thrown", x.cast(0), STATE);
        due("nothing was cast", x.sea(3), 1);
    }

    private static void castOfWhatCannotBe() {
        says("cast: STATE, also: all LIKELIHOODS would be 0");
        StormLots x = Check.told("s10,9,4;a3;a5;");
        x.cast(0);
        due("it cannot be", x.cast(1), STATE);
        due("nothing was cast", x.sea(3), 1);
        due("it can be", x.cast(0), 2);
        x = Check.told("s9,9,4;a3;a5;");
        x.cast(0);
        due("it can be, by chance", x.cast(1), 2);
        x = Check.told("s10,9,4;r3;a5;");
        x.cast(1);
        due("a priest's lot can be wrong", x.cast(0), 2);
        x = Check.told("s10,9,4;a1;a3;a5;");
        x.throwOver(0, 0);
        x.cast(1);
        due("of three, one thrown", x.cast(2), STATE);
    }

    private static void fourLots() {
        says("cast: 4 LOTS at most; FULL: 4, behind BAD and STATE");
        StormLots x = Check.told("s10,9,4;a3;a5;g1;g1;");
        x.throwOver(2, 0);
        for (int n = 1; n <= 4; n++) {
            due("cast", x.cast(0), n);
        }
        due("a fifth", x.cast(0), FULL);
        due("BAD ahead", x.cast(4), BAD);
        due("STATE ahead: does not draw", x.cast(2), STATE);
        x.throwOver(3, 0);
        due("STATE ahead: all would be 0", x.cast(1), STATE);
        due("yet FULL", x.cast(0), FULL);
        due("hours", x.sea(0), 6);
        x.undo();
        x.undo();
        due("with one undone", x.cast(0), 4);
        for (int h = 0; h < 3; h++) {
            x.hour();
        }
        due("storms", x.sea(2), 1);
        x.hour();
        due("STATE ahead: sunk", x.cast(0), STATE);
    }

    private static void castWhenItIsOver() {
        says("cast: STATE: it storms no more, or she has sunk");
        due("still", still().cast(1), STATE);
        due("sunk", sunk().cast(1), STATE);
    }

    private static void throwIsBad() {
        says("throwOver: BAD, ahead of STATE; storms on (0), lies still (1)");
        StormLots x = Check.told("s6,9,4;a3;o5;r1;g4;w2;a7;");
        for (int p : NOBODY) {
            due("throw " + p, x.throwOver(p, 0), BAD);
            due("still " + p, still().throwOver(p, 1), BAD);
            due("sunk " + p, sunk().throwOver(p, 1), BAD);
        }
        for (int how : new int[] {-1, 2, MIN, MAX}) {
            due("how " + how, x.throwOver(0, how), BAD);
            due("still, how " + how, still().throwOver(1, how), BAD);
            due("not aboard, how " + how, still().throwOver(0, how), BAD);
            due("sunk, how " + how, sunk().throwOver(0, how), BAD);
        }
        due("the last one", x.throwOver(5, 0), 5);
        due("lies still", x.throwOver(0, 1), 4);
    }

    private static void throwOfOneNotAboard() {
        says("throwOver: STATE, also: it is not aboard");
        StormLots x = Check.told("s6,9,4;a3;o5;r1;g4;w2;a7;");
        x.throwOver(3, 0);
        due("storms on", x.throwOver(3, 0), STATE);
        due("lies still", x.throwOver(3, 1), STATE);
        due("aboard", x.count(2), 5);
        due("hours", x.sea(0), 1);
    }

    private static void throwOfWhatCannotBe() {
        says("throwOver: STATE, also: all LIKELIHOODS would be 0");
        StormLots x = Check.told("s10,9,0;a3;a5;");
        x.cast(0);
        due("the one, and it storms on", x.throwOver(0, 0), STATE);
        due("an innocent, and it lies still", x.throwOver(1, 1), STATE);
        due("an innocent, and it storms on", x.throwOver(1, 0), 1);
        due("the last, and it storms on", x.throwOver(0, 0), STATE);
        due("the last, and it lies still", x.throwOver(0, 1), 0);
        x = Check.told("s10,9,1;a3;a5;");
        x.cast(0);
        due("the wind can drop by itself", x.throwOver(1, 1), 1);
        likelihoodsAre(x, 60, 0);
        x = Check.told("s10,9,10;a1;a2;");
        due("it lies still as likely by itself", x.throwOver(0, 1), 1);
        likelihoodsAre(x, 20, 20);
        x = Check.told("s10,9,0;g4;");
        due("one alone, and it storms on", x.throwOver(0, 0), STATE);
        due("one alone, and it lies still", x.throwOver(0, 1), 0);
    }

    private static void throwWhenItIsOver() {
        says("throwOver: STATE: it storms no more, or she has sunk");
        for (int how = 0; how < 2; how++) {
            due("still", still().throwOver(1, how), STATE);
            due("sunk", sunk().throwOver(1, how), STATE);
        }
    }

    private static void stillByThatOne() {
        says("or it lies still then (LIKELIHOODS: of that one by 20, of each other one by DROP; it storms no more)");
        for (int drop : new int[] {0, 1, 19}) {
            StormLots x = Check.told("s6,9," + drop + ";a3;g5;w1;");
            due("aboard", x.throwOver(2, 1), 2);
            likelihoodsAre(x, 3 * drop, 5 * drop, 40);
            due("lies still", x.sea(2), 0);
            due("an hour", x.sea(0), 1);
            due("not aboard", x.person(2, 1), 0);
        }
    }

    private static void cargoThreeTimes() {
        says("cargo: FULL: 3");
        StormLots x = Check.told("s6,2,4;a3;");
        for (int n = 1; n <= 3; n++) {
            due("cargo", x.cargo(), n);
        }
        due("a fourth", x.cargo(), FULL);
        due("cargo", x.sea(4), 3);
        due("sinks", x.sea(1), 5);
        x.undo();
        due("with one undone", x.cargo(), 3);
        for (int h = 0; h < 4; h++) {
            x.hour();
        }
        due("storms", x.cargo(), FULL);
        x.hour();
        due("STATE ahead of FULL", x.cargo(), STATE);
    }

    private static void cargoWhenItIsOver() {
        says("cargo: STATE: it storms no more, or she has sunk, also: no SHIP");
        due("still", still().cargo(), STATE);
        due("sunk", sunk().cargo(), STATE);
        due("no ship", new StormLots().cargo(), STATE);
    }

    private static void hourWhenItIsOver() {
        says("hour: STATE: it storms no more, or she has sunk, also: no SHIP");
        due("still", still().hour(), STATE);
        due("sunk", sunk().hour(), STATE);
        due("no ship", new StormLots().hour(), STATE);
    }

    private static void joinsIsBad() {
        says("joins: BAD, ahead of STATE");
        StormLots x = Check.told("s6,9,4;a3;o5;r1;a4;a2;g7;");
        for (int p : NOBODY) {
            due("joins " + p, x.joins(p), BAD);
            due("still " + p, still().joins(p), BAD);
            due("sunk " + p, sunk().joins(p), BAD);
        }
        due("the last one", x.joins(5), 6);
    }

    private static void joinsOfOneWhoDraws() {
        says("joins: STATE, also: it DRAWS, is not aboard");
        StormLots x = Check.told("s6,9,4;a3;o5;r1;g4;w2;g7;");
        for (int p = 0; p < 3; p++) {
            due("draws " + p, x.joins(p), STATE);
        }
        due("passenger", x.joins(3), 4);
        due("draws now", x.joins(3), STATE);
        x.throwOver(3, 0);
        due("thrown, with a lot", x.joins(3), STATE);
        x.throwOver(4, 0);
        due("thrown, without a lot", x.joins(4), STATE);
        x.throwOver(0, 0);
        due("a sailor who was thrown", x.joins(0), STATE);
        due("how many draw", x.joins(5), 3);
    }

    private static void joinsWhenItIsOver() {
        says("joins: STATE: it storms no more, or she has sunk");
        due("still", still().joins(3), STATE);
        due("sunk", sunk().joins(3), STATE);
    }

    private static void personIsBad() {
        says("person: BAD");
        StormLots x = Check.told("s6,9,4;a3;o5;r1;g4;w2;a7;");
        for (int p : NOBODY) {
            due("person " + p, x.person(p, 0), BAD);
        }
        for (int what : new int[] {-1, 4, MIN, MAX}) {
            due("what " + what, x.person(0, what), BAD);
        }
        due("the last one", x.person(5, 0), 7);
        due("no ship", new StormLots().person(0, 0), BAD);
    }

    private static void personWhoDoesNotDraw() {
        says("person: 3 TRUTH (0: it does not DRAW)");
        StormLots x = Check.told("s10,9,4;a3;g4;");
        due("passenger", x.person(1, 3), 0);
        x.joins(1);
        due("with a lot", x.person(1, 3), 10);
        x.throwOver(1, 0);
        due("thrown", x.person(1, 3), 0);
        due("thrown", x.person(1, 2), 0);
        due("thrown", x.person(1, 1), 0);
        due("its weight stays", x.person(1, 0), 4);
        x.throwOver(0, 1);
        due("thrown", x.person(0, 3), 0);
    }

    private static void seaWithoutShip() {
        says("sea: BAD; STATE: no SHIP (ahead of BAD)");
        StormLots x = new StormLots();
        for (int what : new int[] {0, 4, -1, 5, MIN, MAX}) {
            due("no ship " + what, x.sea(what), STATE);
        }
        Check.feed(x, "s1,1,1;");
        x.ship();
        due("no ship by a fault", x.sea(5), STATE);
        Check.feed(x, "s1,1,1;a1;");
        x.ship();
        for (int what : new int[] {-1, 5, MIN, MAX}) {
            due("ship " + what, x.sea(what), BAD);
        }
    }

    private static void seaOfThree() {
        says("sea: 2 whether it storms (1; 0: it lies still; 2: she has sunk)");
        due("storms", Check.told("s1,1,1;a1;").sea(2), 1);
        due("lies still", still().sea(2), 0);
        due("has sunk", sunk().sea(2), 2);
    }

    private static void likelihoodIsBad() {
        says("likelihood: BAD");
        StormLots x = Check.told("s6,9,4;a3;o5;r1;g4;w2;a7;");
        for (int p : NOBODY) {
            due("likelihood " + p, x.likelihood(p), BAD);
        }
        due("the last one", x.likelihood(5), 7);
        due("no ship", new StormLots().likelihood(0), BAD);
        due("still", still().likelihood(0), 60);
        due("sunk", sunk().likelihood(0), 3);
    }

    private static void likelihoodsAtMost() {
        says("LIKELIHOODS are whole numbers: they do not wrap around");
        StormLots x = Check.told("s10,9,19;w9;w9;w9;w9;w9;w9;");
        for (int p = 0; p < 6; p++) {
            x.joins(p);
        }
        for (int i = 0; i < 4; i++) {
            x.cast(0);
        }
        due("18 times 60, four times", x.likelihood(0), 233280000L);
        x.throwOver(0, 1);
        due("and by 20", x.likelihood(0), 4665600000L);
        x = Check.told("s1,9,19;w9;g9;");
        for (int i = 0; i < 4; i++) {
            due("nobody draws", x.cast(0), STATE);
        }
        x = Check.told("s0,9,19;w9;w9;w9;w9;w9;a9;");
        for (int i = 0; i < 4; i++) {
            x.cast(5);
        }
        x.throwOver(0, 1);
        likelihoodsAre(x, 3600000, 3420000, 3420000, 3420000, 3420000, 1710000);
        due("belief of 360 by 1899", x.belief(0, 0), 40);
        due("belief of 360 by 1899", x.belief(0, 1), 211);
    }

    private static void noShip() {
        says("BAD (there is no such thing): nobody is there without a SHIP");
        StormLots x = new StormLots();
        due("cast", x.cast(0), BAD);
        due("throwOver", x.throwOver(0, 0), BAD);
        due("joins", x.joins(0), BAD);
        due("person", x.person(0, 0), BAD);
        due("likelihood", x.likelihood(0), BAD);
    }
}
