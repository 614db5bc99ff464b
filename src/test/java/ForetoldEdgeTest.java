/** Each sentence of the document that names a boundary case of what is foretold (Terms 3, promises 18 to 24). */
public final class ForetoldEdgeTest {
    private static final int NONE = -1000000, BAD = -1000001, STATE = -1000002;
    private static final int MIN = Integer.MIN_VALUE, MAX = Integer.MAX_VALUE;
    private static final int[] NOBODY = {-1, 6, 32, 33, MIN, MAX};
    private static final Check check = new Check();

    private ForetoldEdgeTest() {
    }

    private static void due(String call, long got, long want) {
        check.due(call, got, want);
    }

    private static void says(String sentence) {
        check.where = sentence;
    }

    public static void main(String[] args) {
        lowestTerms();
        beliefIsBad();
        beliefWhenItIsOver();
        likeliestIsTheFirst();
        likeliestIsAboard();
        likeliestOfNobody();
        namedByTruth();
        namedByOneAlone();
        namedWhoDoesNotDraw();
        namedWhoCannotBe();
        namedIsBad();
        namedByNobody();
        tellsOnlyWhoCanBeNamed();
        tellsByTies();
        tellsNothing();
        tellsWhateverWasDone();
        savedInOneHourAtTheEnd();
        savedByCasting();
        savedWhenNobodyDraws();
        savedByTheFirstOfSeveral();
        savedByTheWind();
        savedIsBad();
        savedWhenItIsOver();
        sureAtItsEdges();
        sureByNoLot();
        sureByFourLots();
        sureWhateverWereCast();
        sureOfWhatCannotBe();
        sureIsBad();
        sureOfOneWhoDoesNotDraw();
        priceIsCut();
        priceIfAnotherTookALot();
        priceIsNeverMore();
        priceIsBad();
        priceOfOneWhoDoesNotDraw();
        nothingChanges();
        check.end();
    }

    private static StormLots still() {
        StormLots x = Check.told("s6,9,4;a3;o5;r1;g4;w2;a7;");
        x.throwOver(0, 1);
        return x;
    }

    private static StormLots sunk() {
        StormLots x = Check.told("s6,1,4;a3;o5;r1;g4;w2;a7;");
        x.hour();
        return x;
    }

    private static void beliefIs(StormLots x, int p, long above, long below) {
        due("belief of " + p + " above", x.belief(p, 0), above);
        due("belief of " + p + " below", x.belief(p, 1), below);
    }

    private static void namedIs(StormLots x, int p, long above, long below) {
        due("named " + p + " above", x.named(p, 0), above);
        due("named " + p + " below", x.named(p, 1), below);
    }

    private static void savedIs(StormLots x, int h, long above, long below, int best) {
        due("saved in " + h + " above", x.saved(h, 0), above);
        due("saved in " + h + " below", x.saved(h, 1), below);
        due("saved in " + h + " by", x.saved(h, 2), best);
    }

    private static void lowestTerms() {
        says("fractions, told as two numbers in lowest terms (0 is 0 by 1)");
        StormLots x = Check.told("s6,9,0;a2;a4;a6;");
        beliefIs(x, 0, 1, 6);
        beliefIs(x, 1, 1, 3);
        beliefIs(x, 2, 1, 2);
        x.throwOver(2, 0);
        beliefIs(x, 2, 0, 1);
        beliefIs(x, 0, 1, 3);
        x.throwOver(1, 0);
        beliefIs(x, 1, 0, 1);
        beliefIs(x, 0, 1, 1);
        namedIs(x, 1, 0, 1);
        namedIs(x, 0, 1, 1);
        savedIs(x, 1, 1, 1, 2);
        beliefIs(Check.told("s6,9,0;a1;a2;"), 0, 1, 3);
        beliefIs(Check.told("s6,9,0;a1;"), 0, 1, 1);
    }

    private static void beliefIsBad() {
        says("belief: BAD");
        StormLots x = Check.told("s6,9,4;a3;o5;r1;g4;w2;a7;");
        for (int p : NOBODY) {
            due("belief of " + p, x.belief(p, 0), BAD);
        }
        for (int what : new int[] {-1, 2, MIN, MAX}) {
            due("what " + what, x.belief(0, what), BAD);
        }
        beliefIs(x, 5, 7, 24);
        due("no ship", new StormLots().belief(0, 0), BAD);
    }

    private static void beliefWhenItIsOver() {
        says("BELIEF of one: LIKELIHOOD by all together: also of those who are over the side, when it is over");
        // 60, and 4 times 5, 1, 4, 4, 7
        beliefIs(still(), 0, 5, 12);
        beliefIs(still(), 5, 7, 36);
        beliefIs(sunk(), 0, 1, 8);
    }

    private static void likeliestIsTheFirst() {
        says("LIKELIEST aboard: of several the first");
        due("of all alike", Check.told("s6,9,4;a4;w2;g4;o4;").likeliest(), 0);
        due("of two alike", Check.told("s6,9,4;a3;w2;g4;o4;").likeliest(), 1);
        due("the last", Check.told("s6,9,4;a3;w1;g4;o4;r5;").likeliest(), 4);
        StormLots x = Check.told("s6,9,4;a4;w2;g4;o4;");
        x.throwOver(0, 0);
        due("of those who are left", x.likeliest(), 1);
    }

    private static void likeliestIsAboard() {
        says("LIKELIEST aboard: not one who is over the side, whatever its LIKELIHOOD; one of LIKELIHOOD 0, if all are");
        StormLots x = Check.told("s6,9,1;a9;g1;a2;");
        x.throwOver(0, 1);
        due("likelier is over the side", x.likeliest(), 2);
        x = Check.told("s6,9,0;a9;g1;a2;");
        x.throwOver(0, 1);
        due("all aboard are 0", x.likeliest(), 1);
        due("has sunk", sunk().likeliest(), 5);
    }

    private static void likeliestOfNobody() {
        says("likeliest: NONE: nobody is. STATE: no SHIP");
        StormLots x = new StormLots();
        due("no ship", x.likeliest(), STATE);
        Check.feed(x, "s6,9,0;a9;a1;");
        x.ship();
        x.throwOver(1, 0);
        due("one", x.likeliest(), 0);
        x.throwOver(0, 1);
        due("nobody", x.likeliest(), NONE);
    }

    private static void namedByTruth() {
        says("A LOT names one of those who DRAW: by TRUTH of 10 of the one that one; else each of them alike, that one, too");
        StormLots x = Check.told("s0,9,4;a9;a1;g5;");
        namedIs(x, 0, 1, 2);
        namedIs(x, 1, 1, 2);
        x = Check.told("s10,9,4;a9;a1;");
        namedIs(x, 0, 9, 10);
        namedIs(x, 1, 1, 10);
        x = Check.told("s10,9,4;a9;a1;w5;");
        // the other half of all falls to both alike
        namedIs(x, 0, 7, 10);
        namedIs(x, 1, 3, 10);
        x = Check.told("s1,9,4;r1;a1;o2;");
        // TRUTH 0, 1, 0: of 120 for 0: 10, 9, 20; for 1: 10, 12, 20
        namedIs(x, 0, 13, 40);
        namedIs(x, 1, 7, 20);
        namedIs(x, 2, 13, 40);
    }

    private static void namedByOneAlone() {
        says("NAMED: one who DRAWS alone is named in any case");
        for (int t = 0; t <= 10; t++) {
            StormLots x = Check.told("s" + t + ",9,4;g9;r1;w9;");
            namedIs(x, 1, 1, 1);
            namedIs(x, 0, 0, 1);
            namedIs(x, 2, 0, 1);
        }
    }

    private static void namedWhoDoesNotDraw() {
        says("named: NAMED (0 by 1: it does not DRAW)");
        StormLots x = Check.told("s5,9,4;a1;g9;w9;a1;");
        namedIs(x, 1, 0, 1);
        namedIs(x, 2, 0, 1);
        x.throwOver(0, 0);
        namedIs(x, 0, 0, 1);
        namedIs(x, 3, 1, 1);
    }

    private static void namedWhoCannotBe() {
        says("NAMED: 0 by 1 of one who DRAWS, if no LOT can name it");
        StormLots x = Check.told("s10,9,4;a1;a1;a1;");
        namedIs(x, 1, 1, 3);
        x.cast(2);
        namedIs(x, 0, 0, 1);
        namedIs(x, 1, 0, 1);
        namedIs(x, 2, 1, 1);
        for (int i = 0; i < 3; i++) {
            x.cast(2);
        }
        namedIs(x, 2, 1, 1);
    }

    private static void namedIsBad() {
        says("named: BAD, ahead of STATE");
        StormLots x = Check.told("s6,9,4;a3;o5;r1;g4;w2;a7;");
        StormLots nobody = Check.told("s6,9,4;g3;");
        for (int p : NOBODY) {
            due("named " + p, x.named(p, 0), BAD);
            due("nobody draws, " + p, nobody.named(p, 0), BAD);
        }
        for (int what : new int[] {-1, 2, MIN, MAX}) {
            due("what " + what, x.named(0, what), BAD);
            due("nobody draws, what " + what, nobody.named(0, what), BAD);
        }
        due("no ship", new StormLots().named(0, 0), BAD);
    }

    private static void namedByNobody() {
        says("named: STATE: nobody DRAWS; tells: STATE: no SHIP, nobody DRAWS");
        due("no ship", new StormLots().tells(), STATE);
        StormLots x = Check.told("s6,9,4;a1;g1;w1;");
        x.throwOver(0, 0);
        for (int p = 0; p < 3; p++) {
            due("named " + p, x.named(p, 0), STATE);
            due("named " + p, x.named(p, 1), STATE);
        }
        due("tells", x.tells(), STATE);
        x.joins(1);
        due("named", x.named(1, 0), 1);
        due("tells", x.tells(), 0);
        due("when it lies still others draw yet", still().named(1, 1) > 0 ? 1 : 0, 1);
        due("when she has sunk they draw yet", sunk().named(0, 1) > 0 ? 1 : 0, 1);
    }

    private static void tellsOnlyWhoCanBeNamed() {
        says("TELLS: of all who can be NAMED by the next LOT those (bits)");
        StormLots x = Check.told("s10,9,4;a1;a1;a1;");
        due("each but the likeliest", x.tells(), 6);
        x.cast(2);
        due("0 and 1 can not be named", x.tells(), 0);
        x = Check.told("s9,9,4;a1;a1;");
        x.cast(1);
        // 1 by 19; a lot for 0 makes both 19
        due("0 can be named", x.tells(), 1);
        x = Check.told("s10,9,4;g1;g1;g1;g1;a1;a1;");
        due("the last ones", x.tells(), 48);
        // 5 times 10 by a lot for 0; one for 1, that cannot be, would make 25 and 40
        due("one who does not draw is none", Check.told("s5,9,4;a5;g4;").tells(), 0);
    }

    private static void tellsByTies() {
        says("by whom the LIKELIEST would be another one than now (of several the first)");
        // by a lot 3 times 5 meets 1 times 15
        due("the first stays the first", Check.told("s5,9,4;a3;a1;").tells(), 0);
        due("the first comes to be the first", Check.told("s5,9,4;a1;a3;").tells(), 1);
        due("it is more", Check.told("s5,9,4;a3;a2;").tells(), 2);
    }

    private static void tellsNothing() {
        says("TELLS: 0, if the LIKELIEST would be the same one by any LOT");
        due("lots that are never true", Check.told("s0,9,4;a1;a9;g5;").tells(), 0);
        due("one draws", Check.told("s10,9,4;a1;g9;").tells(), 0);
        due("one who does not draw stays it", Check.told("s10,9,4;a1;a1;w9;").tells(), 0);
    }

    private static void tellsWhateverWasDone() {
        says("tells: STATE: no SHIP, nobody DRAWS (and nothing else)");
        StormLots x = Check.told("s5,9,4;a1;a1;");
        for (int n = 0; n < 4; n++) {
            x.cast(n % 2);
        }
        due("4 were cast", x.tells(), 2);
        x = Check.told("s5,1,4;a1;a3;");
        x.hour();
        due("she has sunk", x.tells(), 1);
        x = Check.told("s5,9,4;a1;a3;a1;");
        x.throwOver(2, 1);
        // 4 and 12 aboard: a lot for 0 makes both 60
        due("it lies still", x.tells(), 1);
    }

    private static void savedInOneHourAtTheEnd() {
        says("SAVED in h HOURS (1, 2; 1, if she SINKS behind the next one)");
        StormLots x = Check.told("s10,1,0;a1;a1;a1;");
        savedIs(x, 1, 1, 3, 2);
        savedIs(x, 2, 1, 3, 2);
        x.cargo();
        savedIs(x, 1, 1, 3, 2);
        savedIs(x, 2, 1, 1, 1);
        x.hour();
        savedIs(x, 2, 1, 3, 2);
        x = Check.told("s10,20,0;a1;a1;a1;");
        for (int h = 0; h < 18; h++) {
            x.hour();
        }
        savedIs(x, 2, 1, 1, 1);
        x.hour();
        savedIs(x, 2, 1, 3, 2);
    }

    private static StormLots withLots(int lots) {
        StormLots x = Check.told("s10,20,0;g1;g1;g1;a1;");
        for (int i = 0; i < lots; i++) {
            x.cast(3);
        }
        for (int p = 0; p < 3; p++) {
            x.joins(p);
        }
        return x;
    }

    private static void savedByCasting() {
        says("a LOT is CAST (if somebody DRAWS, and 4 were not CAST)");
        for (int lots = 0; lots < 4; lots++) {
            savedIs(withLots(lots), 2, 1, 1, 1);
            savedIs(withLots(lots), 1, 1, 4, 2);
        }
        savedIs(withLots(4), 2, 1, 2, 2);
        savedIs(withLots(4), 1, 1, 4, 2);
    }

    private static void savedWhenNobodyDraws() {
        says("a LOT is CAST (if somebody DRAWS)");
        StormLots x = Check.told("s10,9,0;g1;g1;g1;g1;");
        savedIs(x, 2, 1, 2, 2);
        x.joins(3);
        // all lots name 3 then
        savedIs(x, 2, 1, 2, 2);
        x.joins(0);
        // a lot names 0 or 3: 1/4 each certain, 1/2 of it 1/2 in vain: 2/4 by a lot; thrown two: 2/4, too
        savedIs(x, 2, 1, 2, 1);
    }

    private static void savedByTheFirstOfSeveral() {
        says("what is best in the first of them, of several the first: to wait (0), to CAST (1), to THROW one (2 and its "
            + "number)");
        StormLots x = Check.told("s10,9,0;a1;");
        savedIs(x, 1, 1, 1, 2);
        savedIs(x, 2, 1, 1, 0);
        for (int p = 0; p < 6; p++) {
            x = Check.told("s10,9,0;a1;a1;a1;a1;a1;a1;");
            savedIs(x, 1, 1, 6, 2);
            savedIs(x, 2, 1, 1, 1);
            x.cast(p);
            savedIs(x, 1, 1, 1, 2 + p);
            savedIs(x, 2, 1, 1, 0);
        }
        x = Check.told("s10,9,0;a1;a1;");
        // a lot, or both thrown
        savedIs(x, 2, 1, 1, 1);
        x = Check.told("s0,9,0;a1;a1;");
        savedIs(x, 2, 1, 1, 2);
        x = Check.told("s0,9,0;a1;a2;g2;");
        savedIs(x, 1, 2, 5, 3);
        savedIs(x, 2, 4, 5, 3);
        x = Check.told("s0,9,0;a1;a1;a1;a1;a1;w9;");
        savedIs(x, 1, 18, 23, 7);
        savedIs(x, 2, 19, 23, 2);
        x = Check.told("s0,9,0;a1;a1;a1;");
        x.throwOver(0, 0);
        savedIs(x, 1, 1, 2, 3);
        savedIs(x, 2, 1, 1, 3);
    }

    private static void savedByTheWind() {
        says("it lies still if the one is THROWN, else by itself as told");
        StormLots x = Check.told("s0,9,19;a1;a1;");
        savedIs(x, 1, 39, 40, 2);
        savedIs(x, 2, 1, 1, 2);
        x = Check.told("s0,9,19;a1;a1;a1;");
        // 2/3 by throws; 1/3 * (1 - 1/20 * 1/20)
        savedIs(x, 1, 29, 30, 2);
        savedIs(x, 2, 1199, 1200, 2);
        x = Check.told("s0,9,0;a1;a1;a1;");
        savedIs(x, 1, 1, 3, 2);
        savedIs(x, 2, 2, 3, 2);
    }

    private static void savedIsBad() {
        says("saved: above (what = 0), below (1), what is best (2). BAD; STATE: no SHIP (ahead of BAD)");
        StormLots x = Check.told("s6,9,4;a3;o5;r1;g4;w2;a7;");
        StormLots none = new StormLots();
        for (int h : new int[] {0, 3, -1, MIN, MAX}) {
            due("h " + h, x.saved(h, 0), BAD);
            due("no ship, h " + h, none.saved(h, 0), STATE);
        }
        for (int what : new int[] {-1, 3, MIN, MAX}) {
            due("what " + what, x.saved(1, what), BAD);
            due("no ship, what " + what, none.saved(1, what), STATE);
        }
    }

    private static void savedWhenItIsOver() {
        says("saved: STATE: it storms no more, or she has sunk (behind BAD)");
        for (int what = 0; what < 3; what++) {
            due("still", still().saved(1, what), STATE);
            due("sunk", sunk().saved(2, what), STATE);
        }
        due("still, BAD", still().saved(3, 0), BAD);
        due("still, BAD", still().saved(1, 3), BAD);
        due("sunk, BAD", sunk().saved(0, 0), BAD);
        due("sunk, BAD", sunk().saved(1, -1), BAD);
    }

    private static void sureAtItsEdges() {
        says("SURE: till its BELIEF is a of 100 or more");
        // likelihoods of 0, 1, 2 by lots for 0: 1 1 2; 15 5 20; 225 25 200; 3375 125 2000; 50625 625 20000
        StormLots x = Check.told("s5,9,4;a1;a1;g2;");
        int[][] dues = {{25, 0}, {26, 1}, {37, 1}, {38, 2}, {50, 2}, {51, 3}, {61, 3}, {62, 4}, {71, 4}, {72, NONE}};
        for (int[] d : dues) {
            due("by " + d[0], x.sure(0, d[0]), d[1]);
        }
    }

    private static void sureByNoLot() {
        says("SURE: the fewest LOTS (0 to 4)");
        StormLots x = Check.told("s5,9,4;a1;");
        due("it is that one", x.sure(0, 99), 0);
        x = Check.told("s5,9,4;a1;a1;");
        due("1", x.sure(0, 1), 0);
        due("50", x.sure(0, 50), 0);
        due("51", x.sure(0, 51), 1);
    }

    private static void sureByFourLots() {
        says("SURE: (0 to 4); NONE");
        // of two, by 2 of 10: 12 to 8, that is 3 to 2 each: 3/5, 9/13, 27/35, 81/97
        StormLots x = Check.told("s2,9,4;a1;a1;");
        due("60", x.sure(1, 60), 1);
        due("69", x.sure(1, 69), 2);
        due("77", x.sure(1, 77), 3);
        due("78", x.sure(1, 78), 4);
        due("83", x.sure(1, 83), 4);
        due("84", x.sure(1, 84), NONE);
        due("99", x.sure(1, 99), NONE);
        due("lots that are never true", Check.told("s0,9,4;a1;a1;").sure(0, 51), NONE);
    }

    private static void sureWhateverWereCast() {
        says("SURE: whatever were CAST");
        StormLots x = Check.told("s2,9,4;a1;a1;");
        for (int i = 0; i < 4; i++) {
            x.cast(i % 2);
        }
        due("1/2 behind four", x.sure(1, 50), 0);
        due("four more", x.sure(1, 83), 4);
        x = Check.told("s2,2,4;a1;a1;");
        x.hour();
        due("more than there are hours", x.sure(1, 83), 4);
        x.hour();
        due("also when she has sunk", x.sure(1, 83), 4);
    }

    private static void sureOfWhatCannotBe() {
        says("SURE: NONE (also if it can not be named so often)");
        StormLots x = Check.told("s10,9,4;a1;a1;");
        due("by one", x.sure(1, 99), 1);
        x.cast(0);
        due("it can not be named", x.sure(1, 1), NONE);
        due("the other one", x.sure(0, 99), 0);
        x = Check.told("s10,9,4;o1;a1;g1;");
        x.cast(0);
        x.cast(1);
        // a sworn one's lot can be wrong: 0 is 75, 1 is 0, 2 is 100; a lot for 1 makes 375, 0, 1000
        due("named, but not it", x.sure(1, 1), NONE);
    }

    private static void sureIsBad() {
        says("sure: by a of 100 (1 to 99). BAD, ahead of STATE");
        StormLots x = Check.told("s6,9,4;a3;o5;r1;g4;w2;a7;");
        for (int a : new int[] {0, 100, -1, MIN, MAX}) {
            due("a " + a, x.sure(0, a), BAD);
            due("does not draw, a " + a, x.sure(3, a), BAD);
            due("still, a " + a, still().sure(1, a), BAD);
        }
        for (int p : NOBODY) {
            due("sure of " + p, x.sure(p, 50), BAD);
            due("still, sure of " + p, still().sure(p, 50), BAD);
        }
        due("no ship", new StormLots().sure(0, 50), BAD);
    }

    private static void sureOfOneWhoDoesNotDraw() {
        says("sure: STATE: it does not DRAW, it lies still");
        StormLots x = Check.told("s6,9,4;a3;o5;r1;g4;w2;a7;");
        due("passenger", x.sure(3, 1), STATE);
        due("stowaway", x.sure(4, 1), STATE);
        x.joins(4);
        due("with a lot", x.sure(4, 1), 0);
        x.throwOver(4, 0);
        due("thrown", x.sure(4, 1), STATE);
        due("still, draws", still().sure(1, 1), STATE);
        due("still, thrown", still().sure(0, 1), STATE);
    }

    private static void priceIsCut() {
        says("PRICE: for a purse (0 to 999): as much of that as it is likely to be NAMED by the next LOT, cut");
        StormLots x = Check.told("s0,9,4;a1;a1;a1;");
        int[][] dues = {{0, 0}, {1, 0}, {2, 0}, {3, 1}, {5, 1}, {6, 2}, {998, 332}, {999, 333}};
        for (int[] d : dues) {
            due("purse " + d[0], x.price(0, d[0], -1), d[1]);
        }
        due("one draws alone", Check.told("s10,9,4;a1;g9;").price(0, 999, -1), 999);
        x = Check.told("s10,9,4;a1;a1;");
        x.cast(0);
        due("in any case", x.price(0, 999, -1), 999);
        due("in no case", x.price(1, 999, -1), 0);
    }

    private static void priceIfAnotherTookALot() {
        says("PRICE: by how much less that is, if another one who does not DRAW took a lot, too");
        StormLots x = Check.told("s0,9,4;a1;g1;");
        // 3, and 3/2 cut
        due("each is cut", x.price(0, 3, 1), 2);
        due("none", x.price(0, 0, 1), 0);
        due("1", x.price(0, 1, 1), 1);
        due("999", x.price(0, 999, 1), 500);
        // 2/2, then of 2 by m = 2: 1 * 20 / 40 in both
        due("by true lots", Check.told("s10,9,4;a1;g1;").price(0, 100, 1), 50);
        due("of a stowaway", Check.told("s10,9,4;a1;w1;").price(0, 99, 1), 66);
        due("it took none", x.count(3), 1);
    }

    /** With one more who draws, nobody is likelier to be named: so the words (can be below 0) never come true. */
    private static void priceIsNeverMore() {
        says("PRICE: by how much less that is (can be below 0)");
        for (int t = 0; t <= 10; t++) {
            StormLots x = Check.told("s" + t + ",9,4;a1;o9;r5;g9;w1;");
            for (int p = 0; p < 3; p++) {
                for (int other = 3; other < 5; other++) {
                    check.holds("not below 0", x.price(p, 999, other) >= 0);
                    check.holds("not below 0", x.price(p, 7, other) >= 0);
                }
            }
        }
    }

    private static void priceIsBad() {
        says("price: BAD: a PERSON (other: -1, too), a purse; ahead of STATE");
        StormLots x = Check.told("s6,9,4;a3;o5;r1;g4;w2;g7;");
        for (int p : NOBODY) {
            due("price of " + p, x.price(p, 10, -1), BAD);
            due("price with " + p, x.price(0, 10, p), p == -1 ? x.price(0, 10, -1) : BAD);
            due("does not draw, with " + p, x.price(3, 10, p), p == -1 ? STATE : BAD);
        }
        due("other -2", x.price(0, 10, -2), BAD);
        for (int purse : new int[] {-1, 1000, MIN, MAX}) {
            due("purse " + purse, x.price(0, purse, -1), BAD);
            due("does not draw, purse " + purse, x.price(3, purse, -1), BAD);
            due("other draws, purse " + purse, x.price(0, purse, 1), BAD);
        }
        check.holds("the last one", x.price(0, 999, 5) >= 0);
        due("no ship", new StormLots().price(0, 10, -1), BAD);
    }

    private static void priceOfOneWhoDoesNotDraw() {
        says("price: STATE: it does not DRAW; the other one DRAWS, or is not aboard");
        StormLots x = Check.told("s6,9,4;a3;o5;r1;g4;w2;a7;");
        due("passenger", x.price(3, 10, -1), STATE);
        due("passenger, with a stowaway", x.price(3, 10, 4), STATE);
        due("passenger, with itself", x.price(3, 10, 3), STATE);
        due("the other draws", x.price(0, 10, 1), STATE);
        due("itself", x.price(0, 10, 0), STATE);
        x.joins(3);
        due("the other draws now", x.price(0, 10, 3), STATE);
        x.throwOver(4, 0);
        due("the other is over the side", x.price(0, 10, 4), STATE);
        x.throwOver(1, 0);
        due("the other, a sailor, is over the side", x.price(0, 10, 1), STATE);
        due("it is over the side", x.price(1, 10, -1), STATE);
        check.holds("when it lies still", still().price(1, 999, -1) > 0);
        check.holds("when she has sunk", sunk().price(0, 999, 3) > 0);
    }

    private static void foretell(StormLots x) {
        for (int what = 0; what < 3; what++) {
            x.belief(0, what);
            x.named(1, what);
            x.saved(1, what);
            x.saved(2, what);
            x.storm(40 + what, 5, what);
        }
        x.likeliest();
        x.tells();
        x.sure(0, 99);
        x.price(0, 99, -1);
        x.price(0, 99, 3);
        x.been(0, 0, 1, 0);
        x.been(0, 0, 1, 1);
    }

    private static StormLots acted() {
        StormLots x = Check.told("s6,9,4;a3;o5;r1;g4;w2;a7;");
        x.row(0, 0, 2);
        x.cargo();
        x.joins(4);
        x.cast(1);
        x.image(0);
        x.throwOver(2, 0);
        x.ask(0, 0);
        x.feed('s');
        return x;
    }

    private static void nothingChanges() {
        says("FORETOLD (nothing changes)");
        StormLots x = acted();
        foretell(x);
        check.holds("all is as ahead", Look.at(x).equals(Look.at(acted())));
    }
}
