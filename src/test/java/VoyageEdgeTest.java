/** Each sentence of the document that names a boundary case of BEEN, STORM and IMAGES (Terms 3, promises 25 to 28). */
public final class VoyageEdgeTest {
    private static final int BAD = -1000001, STATE = -1000002;
    private static final int NULL = -1000011, PLACE = -1000012;
    private static final int MIN = Integer.MIN_VALUE, MAX = Integer.MAX_VALUE;
    private static final Check check = new Check();

    private VoyageEdgeTest() {
    }

    private static void due(String call, long got, long want) {
        check.due(call, got, want);
    }

    private static void says(String sentence) {
        check.where = sentence;
    }

    public static void main(String[] args) {
        oneToTenVoyages();
        stormJustIfAboard();
        fewestFromNone();
        fewestOfMany();
        whoOfAll();
        beenWithoutShip();
        beenIsBad();
        beenOfAMissingRow();
        beenAtNoPlace();
        noSetOfPeople();
        neitherOneNorNought();
        onlyTheseVoyages();
        theOneByNumbers();
        ruleAtItsEdges();
        ruleWithoutLots();
        lotsThatAreTrue();
        lotsIfTheOneDoesNotDraw();
        windByADraw();
        windThatNeverDrops();
        sinksAsTold();
        fromNowOn();
        seeds();
        stormIsBad();
        stormWhenItIsOver();
        imageIsBad();
        imageOfNoShip();
        restoreIsBad();
        restoreOfNone();
        restoresAll();
        imagesStay();
        noActThen();
        check.end();
    }

    private static StormLots ofVoyages(String ship, int... items) {
        StormLots x = Check.told(ship);
        x.row(0, 2, items.length);
        for (int i = 0; i < items.length; i++) {
            x.set(0, i, items[i]);
        }
        return x;
    }

    private static final String SIX = "s5,9,1;a1;a1;a1;a1;a1;a1;";

    private static void beenIs(StormLots x, int n, int who, int fewest) {
        due("who by " + n, x.been(0, 0, n, 0), who);
        due("the fewest of " + n, x.been(0, 0, n, 1), fewest);
    }

    private static void oneToTenVoyages() {
        says("been: n voyages (1 to 10)");
        StormLots x = Check.told(SIX);
        x.row(0, 0, 40);
        for (int n = 1; n <= 10; n++) {
            beenIs(x, n, 63, 0);
        }
        for (int n : new int[] {0, 11, 20, -1, MIN, MAX, 1 << 30, 1 << 31}) {
            due("n " + n, x.been(0, 0, n, 0), BAD);
            due("n " + n, x.been(0, 0, n, 1), BAD);
        }
    }

    private static void stormJustIfAboard() {
        says("BEEN: who of all can be the one (bits), if there was a storm just if that one was aboard");
        StormLots x = Check.told(SIX);
        x.row(0, 0, 2);
        for (int set = 0; set < 64; set++) {
            x.set(0, 0, set);
            x.set(0, 1, 1);
            due("a storm with " + set, x.been(0, 0, 1, 0), set);
            x.set(0, 1, 0);
            due("no storm with " + set, x.been(0, 0, 1, 0), 63 - set);
        }
    }

    private static void fewestFromNone() {
        says("the fewest of these voyages (0 on) that leave just those: how many");
        StormLots x = ofVoyages(SIX, 63, 1, 0, 0, 63, 1, 0, 0);
        for (int n = 1; n <= 4; n++) {
            beenIs(x, n, 63, 0);
        }
        x = ofVoyages(SIX, 0, 1);
        beenIs(x, 1, 0, 1);
        x = ofVoyages(SIX, 63, 0);
        beenIs(x, 1, 0, 1);
        x = ofVoyages(SIX, 63, 1, 3, 1, 5, 1, 1, 1);
        beenIs(x, 2, 3, 1);
        beenIs(x, 3, 1, 2);
        beenIs(x, 4, 1, 1);
        x = ofVoyages("s5,9,1;a1;", 1, 1, 1, 0);
        beenIs(x, 1, 1, 0);
        beenIs(x, 2, 0, 1);
    }

    private static void fewestOfMany() {
        says("the fewest of these voyages: not those that leave the fewest one by one");
        StormLots x = ofVoyages(SIX, 1, 0, 2, 0, 4, 0, 8, 0, 16, 0, 32, 0, 1, 0, 2, 0, 4, 0, 8, 0);
        for (int n = 1; n <= 10; n++) {
            int gone = Math.min(n, 6);
            beenIs(x, n, 63 - ((1 << gone) - 1), gone);
        }
        x = ofVoyages(SIX, 27, 0, 7, 0, 56, 0);
        beenIs(x, 1, 36, 1);
        beenIs(x, 2, 32, 2);
        beenIs(x, 3, 0, 2);
    }

    private static void whoOfAll() {
        says("BEEN: who of all: over the side, too, and when it is over");
        StormLots x = ofVoyages("s5,9,1;a1;a1;a1;", 3, 1);
        x.throwOver(0, 0);
        due("thrown", x.been(0, 0, 1, 0), 3);
        x.throwOver(1, 1);
        due("still", x.been(0, 0, 1, 0), 3);
        x = ofVoyages("s5,1,1;a1;a1;a1;", 3, 1);
        x.hour();
        due("sunk", x.been(0, 0, 1, 0), 3);
    }

    private static void beenWithoutShip() {
        says("been: STATE: no SHIP (ahead of BAD)");
        StormLots x = new StormLots();
        x.row(0, 0, 4);
        due("as told", x.been(0, 0, 1, 0), STATE);
        due("row", x.been(8, 0, 1, 0), STATE);
        due("n", x.been(0, 0, 0, 0), STATE);
        due("what", x.been(0, 0, 1, 2), STATE);
        due("missing", x.been(1, 0, 1, 0), STATE);
        due("place", x.been(0, 9, 1, 0), STATE);
        due("status", x.status(), 0);
    }

    private static void beenIsBad() {
        says("been: BAD: ROW, n, what; ahead of NULL and PLACE");
        StormLots x = Check.told(SIX);
        x.row(0, 0, 4);
        for (int row : new int[] {-1, 8, MIN, MAX}) {
            due("row " + row, x.been(row, 0, 1, 0), BAD);
        }
        for (int what : new int[] {-1, 2, MIN, MAX}) {
            due("what " + what, x.been(0, 0, 1, what), BAD);
            due("missing, what " + what, x.been(1, 0, 1, what), BAD);
            due("no place, what " + what, x.been(0, -1, 1, what), BAD);
        }
        due("missing, n", x.been(1, 0, 11, 0), BAD);
        due("no place, n", x.been(0, -1, 0, 0), BAD);
        due("status", x.status(), 0);
    }

    private static void beenOfAMissingRow() {
        says("been: NULL, ahead of PLACE");
        StormLots x = Check.told(SIX);
        due("missing", x.been(7, 0, 1, 0), NULL);
        due("status", x.status(), 1);
        due("missing, no place", x.been(7, -1, 10, 1), NULL);
    }

    private static void beenAtNoPlace() {
        says("been: PLACE, ahead of BAD: no set of PEOPLE");
        StormLots x = ofVoyages(SIX, 64, 2, 0, 0, 0, 0);
        x.row(1, 2, 0);
        x.row(2, 2, 1);
        for (int i : new int[] {-1, -2, 5, 6, 7, MIN, MAX, MAX - 1}) {
            due("from " + i, x.been(0, i, 1, 0), PLACE);
            due("status", x.status(), 2);
        }
        due("to the end", x.been(0, 4, 1, 0), 63);
        due("status", x.status(), 0);
        due("two to the end", x.been(0, 2, 2, 0), 63);
        due("three beyond it", x.been(0, 2, 3, 0), PLACE);
        due("ahead of no set", x.been(0, 0, 4, 0), PLACE);
        due("from an odd place", x.been(0, 3, 1, 0), 63);
        due("of none", x.been(1, 0, 1, 0), PLACE);
        due("of one", x.been(2, 0, 1, 0), PLACE);
        x.row(3, 0, 20);
        due("ten", x.been(3, 0, 10, 0), 63);
        due("ten beyond", x.been(3, 1, 10, 0), PLACE);
    }

    private static void noSetOfPeople() {
        says("been: then BAD: no set of PEOPLE");
        for (int people = 1; people <= 6; people++) {
            int all = (1 << people) - 1;
            StormLots x = ofVoyages(SIX.substring(0, 7 + 3 * people), all, 1, all + 1, 1, -1, 1, MAX, 1, MIN, 1);
            due("all of " + people, x.been(0, 0, 1, 0), all);
            for (int v = 1; v < 5; v++) {
                due("no set of " + people, x.been(0, 2 * v, 1, 0), BAD);
                due("no set of " + people, x.been(0, 2 * v, 1, 1), BAD);
            }
            due("among others", x.been(0, 0, 2, 0), BAD);
        }
    }

    private static void neitherOneNorNought() {
        says("been: then BAD: neither 1 nor 0");
        StormLots x = ofVoyages(SIX, 1, 1, 1, 0, 1, 2, 1, -1, 1, MIN, 1, MAX);
        due("1", x.been(0, 0, 1, 0), 1);
        due("0", x.been(0, 2, 1, 0), 62);
        x.set(1, 0, 0);
        for (int v = 2; v < 6; v++) {
            due("neither", x.been(0, 2 * v, 1, 0), BAD);
            due("neither", x.been(0, 2 * v, 1, 1), BAD);
            due("status stays", x.status(), 1);
        }
    }

    private static void onlyTheseVoyages() {
        says("n voyages of a ROW from i on: no others are looked at");
        StormLots x = ofVoyages(SIX, 99, 9, 5, 1, 4, 1, 99, 9);
        due("between", x.been(0, 2, 2, 0), 4);
        due("one ahead", x.been(0, 0, 3, 0), BAD);
        due("one behind", x.been(0, 2, 3, 0), BAD);
    }

    private static void stormIs(StormLots x, int a, int seed, int innocents, int hours, int how) {
        due("innocent by " + a, x.storm(a, seed, 0), innocents);
        due("hours by " + a, x.storm(a, seed, 1), hours);
        due("how by " + a, x.storm(a, seed, 2), how);
    }

    // draws of seed 1: 16807, 282475249, 1622650073, 984943658, 1144108930, 470211272

    private static void theOneByNumbers() {
        says("who is the one, by a draw: the rest of it by all LIKELIHOODS of now falls to one, by numbers");
        // 16807 by 9 leaves 4
        stormIs(Check.told("s0,1,0;a4;a5;"), 1, 1, 0, 1, 1);
        stormIs(Check.told("s0,1,0;a5;a4;"), 1, 1, 0, 1, 1);
        // by 8 it leaves 7
        stormIs(Check.told("s0,1,0;a4;a4;"), 1, 1, 1, 1, 0);
        // by 7 it leaves 0, that falls to nobody who is over the side
        StormLots x = Check.told("s0,9,0;a1;a7;");
        x.throwOver(0, 0);
        stormIs(x, 1, 1, 0, 1, 1);
        // a stowaway counts twice: by 8 it leaves 7
        stormIs(Check.told("s0,1,0;a6;w1;"), 1, 1, 1, 1, 0);
        stormIs(Check.told("s0,2,0;a6;w1;"), 1, 1, 1, 2, 1);
    }

    private static void ruleAtItsEdges() {
        says("if the BELIEF of the LIKELIEST is a of 100 or more, that one is THROWN; else a LOT is CAST (RULE a 1 to 100)");
        // 3, the last one, is it
        String four = "s10,9,0;a1;a1;a1;a1;";
        stormIs(Check.told(four), 1, 1, 3, 4, 1);
        stormIs(Check.told(four), 25, 1, 3, 4, 1);
        stormIs(Check.told(four), 26, 1, 0, 2, 1);
        stormIs(Check.told(four), 100, 1, 0, 2, 1);
        StormLots x = Check.told(four);
        x.cast(3);
        stormIs(x, 100, 1, 0, 1, 1);
    }

    private static void ruleWithoutLots() {
        says("or nobody DRAWS, or 4 LOTS were CAST, that one is THROWN");
        stormIs(Check.told("s10,9,0;g1;g1;g1;g1;"), 100, 1, 3, 4, 1);
        StormLots x = Check.told("s0,20,0;a1;a1;");
        // 1 is it: four lots that tell nothing, then both
        stormIs(x, 51, 1, 1, 6, 1);
        for (int i = 0; i < 3; i++) {
            x.cast(0);
        }
        // 16807 by 2000 leaves 807: 0 is it
        stormIs(x, 51, 1, 0, 2, 1);
        x.cast(0);
        // by 20000 it leaves 16807: 1 is it
        stormIs(x, 51, 1, 1, 2, 1);
        x = Check.told("s10,9,0;g1;g1;g1;a1;");
        x.throwOver(3, 0);
        // 16807 by 3 leaves 1
        stormIs(x, 100, 1, 1, 2, 1);
    }

    private static void lotsThatAreTrue() {
        says("if its rest by 10 is less than TRUTH of the one, who DRAWS, that one is named; else the one at its place by "
            + "the rest of (the draw by 10, cut) by m, by numbers of those who DRAW");
        // 282475249: 9 by 10; 28247524 is even, 0 by 4, 4 by 5, 1 by 3
        stormIs(Check.told("s10,20,0;a1;a1;"), 60, 1, 0, 2, 1);
        stormIs(Check.told("s9,20,0;a1;a1;"), 60, 1, 1, 3, 1);
        // 3 is it, 0 is named and thrown; then 1144108930, 0 by 10, names 3
        stormIs(Check.told("s9,20,0;a1;a1;a1;a1;"), 50, 1, 1, 4, 1);
        // 7 by 8 falls to 4, at place 4
        stormIs(Check.told("s9,2,0;a1;a1;a1;a1;a4;"), 80, 1, 0, 2, 1);
        // 7 by 8 falls to 4; place 1 by 3 of 0, 2, 4 is 2: LIKELIHOODS 1, 10, 28, 10, 4, that is 28 of 53
        stormIs(Check.told("s9,2,0;a1;g1;a1;g1;a4;"), 52, 1, 1, 2, 0);
        stormIs(Check.told("s9,2,0;a1;g1;a1;g1;a4;"), 53, 1, 0, 2, 0);
    }

    private static void lotsIfTheOneDoesNotDraw() {
        says("STORM: TRUTH of the one, who DRAWS: else each alike");
        // 16807 by 11 leaves 10: 2; 28247524 and 98494365 by 2 name 0, then 1, so that it can be none of them
        stormIs(Check.told("s10,2,0;a1;a1;g9;"), 100, 1, 0, 2, 0);
        stormIs(Check.told("s10,3,0;a1;a1;g9;"), 100, 1, 0, 3, 1);
    }

    private static void windByADraw() {
        says("It lies still if the one is THROWN; else, by a draw more, if its rest by 20 is less than DROP");
        // behind a throw 282475249: 9 by 20
        stormIs(Check.told("s10,3,10;a1;a1;"), 50, 1, 1, 1, 1);
        stormIs(Check.told("s10,3,9;a1;a1;"), 50, 1, 1, 2, 1);
        // behind a lot 1622650073: 13 by 20
        stormIs(Check.told("s10,3,14;a1;a1;"), 51, 1, 0, 1, 1);
        stormIs(Check.told("s10,3,13;a1;a1;"), 51, 1, 0, 2, 1);
        stormIs(Check.told("s10,1,14;a1;a1;"), 51, 1, 0, 1, 1);
        stormIs(Check.told("s10,1,13;a1;a1;"), 51, 1, 0, 1, 0);
    }

    private static void windThatNeverDrops() {
        says("else, by a draw more, if its rest by 20 is less than DROP: a draw is taken by DROP 0, too");
        // draws behind 11: 184877 (1 is it), 959744092 (names it), 669281627 (the wind), 96962003 (names it: 9 of 10)
        stormIs(Check.told("s5,20,0;a1;a1;"), 80, 11, 0, 3, 1);
        // then 1847779995 (the wind), 877356698 (not true; at place 1, it)
        stormIs(Check.told("s5,20,0;a1;a1;"), 91, 11, 0, 4, 1);
    }

    private static void sinksAsTold() {
        says("she SINKS as told: HOURS till it is over; whether it lay still (1), she sank (0)");
        String law = "s10,";
        String four = ",0;a1;a1;a1;a1;";
        stormIs(Check.told(law + 1 + four), 1, 1, 1, 1, 0);
        stormIs(Check.told(law + 3 + four), 1, 1, 3, 3, 0);
        stormIs(Check.told(law + 4 + four), 1, 1, 3, 4, 1);
        StormLots x = Check.told(law + 3 + four);
        x.cargo();
        stormIs(x, 1, 1, 3, 4, 1);
        x.hour();
        stormIs(x, 1, 1, 3, 3, 0);
        x.hour();
        x.hour();
        stormIs(x, 1, 1, 1, 1, 0);
    }

    private static void fromNowOn() {
        says("it goes on from now, HOUR by HOUR: how many innocent ones are lost; HOURS till it is over");
        StormLots x = Check.told("s0,9,0;a1;a1;a1;");
        x.throwOver(0, 0);
        x.hour();
        // 16807 by 2 leaves 1: 2
        stormIs(x, 1, 1, 1, 2, 1);
    }

    private static void seeds() {
        says("storm: (SEED 1 to 999999); X becomes the rest of (X times 16807) by 2147483647 for each draw");
        StormLots x = Check.told("s0,1,0;a1;a1;");
        // 999999 leaves 1774597664, even; 999998 leaves 1774580857, odd
        stormIs(x, 1, 999999, 0, 1, 1);
        stormIs(x, 1, 999998, 1, 1, 0);
        stormIs(x, 1, 1, 1, 1, 0);
        for (int seed : new int[] {0, 1000000, -1, MIN, MAX}) {
            due("seed " + seed, x.storm(1, seed, 0), BAD);
        }
    }

    private static void stormIsBad() {
        says("storm: BAD; STATE: no SHIP (ahead of BAD)");
        StormLots x = Check.told("s0,1,0;a1;a1;");
        StormLots none = new StormLots();
        due("no ship", none.storm(1, 1, 0), STATE);
        due("no ship, seed", none.storm(1, 0, 0), STATE);
        for (int a : new int[] {0, 101, -1, MIN, MAX}) {
            due("a " + a, x.storm(a, 1, 0), BAD);
            due("no ship, a " + a, none.storm(a, 1, 0), STATE);
        }
        for (int what : new int[] {-1, 3, MIN, MAX}) {
            due("what " + what, x.storm(1, 1, what), BAD);
            due("no ship, what " + what, none.storm(1, 1, what), STATE);
        }
    }

    private static void stormWhenItIsOver() {
        says("storm: STATE: it storms no more, or she has sunk (behind BAD)");
        StormLots x = Check.told("s0,1,0;a1;a1;");
        x.throwOver(0, 1);
        due("still", x.storm(1, 1, 0), STATE);
        due("still, BAD", x.storm(0, 1, 0), BAD);
        due("still, BAD", x.storm(1, 0, 0), BAD);
        due("still, BAD", x.storm(1, 1, 3), BAD);
        x.undo();
        x.hour();
        due("sunk", x.storm(1, 1, 0), STATE);
        due("sunk, BAD", x.storm(1, 1, -1), BAD);
    }

    private static void imageIsBad() {
        says("image: An IMAGE (0, 1) is kept. BAD, ahead of STATE");
        StormLots x = Check.told(SIX);
        StormLots none = new StormLots();
        for (int k : new int[] {-1, 2, MIN, MAX}) {
            due("image " + k, x.image(k), BAD);
            due("no ship, image " + k, none.image(k), BAD);
        }
        due("0", x.image(0), 1);
        due("1", x.image(1), 1);
    }

    private static void imageOfNoShip() {
        says("image: STATE: no SHIP");
        StormLots x = new StormLots();
        due("0", x.image(0), STATE);
        due("1", x.image(1), STATE);
        due("none was kept", x.restore(0), STATE);
    }

    private static void restoreIsBad() {
        says("restore: BAD, ahead of STATE");
        StormLots x = Check.told(SIX);
        for (int k : new int[] {-1, 2, MIN, MAX}) {
            due("restore " + k, x.restore(k), BAD);
            due("no ship, restore " + k, new StormLots().restore(k), BAD);
        }
    }

    private static void restoreOfNone() {
        says("restore: STATE: none was kept");
        due("no ship", new StormLots().restore(0), STATE);
        StormLots x = Check.told(SIX);
        x.image(1);
        x.hour();
        due("0", x.restore(0), STATE);
        due("nothing changed", x.sea(0), 1);
        due("nothing changed", x.count(4), 1);
        due("1", x.restore(1), 1);
    }

    /** Each of these differs from the next by one thing that an image keeps. */
    private static StormLots acted(int deeds) {
        StormLots x = Check.told("s6,9,4;a3;o5;r1;g4;w2;a7;");
        for (int d = 1; d <= deeds; d++) {
            switch (d) {
                case 1: x.cargo(); break;
                case 2: x.joins(3); break;
                case 3: x.cast(3); break;
                case 4: x.hour(); break;
                case 5: x.throwOver(5, 0); break;
                default: x.throwOver(0, 1); break;
            }
        }
        return x;
    }

    private static void restoresAll() {
        says("restore: The SHIP is as an IMAGE kept it");
        for (int deeds = 0; deeds <= 6; deeds++) {
            StormLots x = acted(deeds);
            String was = Look.atShip(acted(deeds));
            x.image(0);
            x.undo();
            x.undo();
            x.throwOver(2, 0);
            x.hour();
            due("restore", x.restore(0), 1);
            check.holds("the same ship behind " + deeds, Look.atShip(x).equals(was));
            Check.feed(x, "s9,3,1;g7;r2;");
            x.ship();
            due("restore behind another ship", x.restore(0), 1);
            check.holds("the same ship behind " + deeds, Look.atShip(x).equals(was));
        }
        StormLots sunk = Check.told("s6,1,4;a3;");
        sunk.hour();
        sunk.image(1);
        sunk.undo();
        sunk.restore(1);
        due("one that has sunk", sunk.sea(2), 2);
    }

    private static void imagesStay() {
        says("An IMAGE (0, 1) is kept: each by itself, till another is kept there, whatever is done then");
        StormLots x = acted(1);
        x.image(0);
        x.hour();
        x.image(1);
        x.hour();
        due("0", x.restore(0), 1);
        due("hour", x.sea(0), 0);
        x.cast(0);
        due("0 again", x.restore(0), 1);
        due("no lot", x.sea(3), 0);
        due("1", x.restore(1), 1);
        due("hour", x.sea(0), 1);
        x.hour();
        due("another in its place", x.image(1), 1);
        x.restore(0);
        x.restore(1);
        due("hour", x.sea(0), 2);
    }

    private static void noActThen() {
        says("restore: (no ACT can be undone then)");
        StormLots x = acted(5);
        due("acts", x.count(4), 5);
        due("an image takes none", x.image(0), 1);
        due("acts", x.count(4), 5);
        x.restore(0);
        due("acts", x.count(4), 0);
        due("undo", x.undo(), STATE);
        x.hour();
        due("one", x.count(4), 1);
        due("undo", x.undo(), 0);
        due("undo", x.undo(), STATE);
    }
}
