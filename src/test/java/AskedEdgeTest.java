/** Each sentence of the document that names a boundary case of what is asked (Terms 3 and 4, promises 29 to 34). */
public final class AskedEdgeTest {
    private static final int NONE = -1000000, BAD = -1000001, KIND = -1000013;
    private static final int MIN = Integer.MIN_VALUE, MAX = Integer.MAX_VALUE;
    private static final int[] NOBODY = {-1, 6, 32, 33, MIN, MAX};
    private static final String ALL = "s7,9,2;a1;o2;r3;g4;w5;a6;";
    private static final Check check = new Check();

    private AskedEdgeTest() {
    }

    private static void due(String call, long got, long want) {
        check.due(call, got, want);
    }

    private static void says(String sentence) {
        check.where = sentence;
    }

    public static void main(String[] args) {
        kindsAsTold();
        kindIsBad();
        asOneOfAKind();
        asIsBad();
        bodyOfTheNearestKind();
        truthWithinAnAsk();
        askIsBad();
        traceIsEmptyAhead();
        traceOfNone();
        traceOfRefusedAsk();
        countsOfNothing();
        countsOfAll();
        countIsBad();
        statusAtFirst();
        statusOfEachFinding();
        statusBehindRefusals();
        statusBehindOtherCalls();
        theLastCall();
        check.end();
    }

    private static void kindsAsTold() {
        says("kind: The KIND of a PERSON, as told (1 to 5)");
        StormLots x = Check.told(ALL);
        int[] dues = {1, 2, 3, 4, 5, 1};
        for (int p = 0; p < 6; p++) {
            due("kind of " + p, x.kind(p), dues[p]);
        }
        x.joins(4);
        due("with a lot", x.kind(4), 5);
        x.throwOver(4, 0);
        due("over the side", x.kind(4), 5);
    }

    private static void kindIsBad() {
        says("kind: BAD");
        StormLots x = Check.told(ALL);
        for (int p : NOBODY) {
            due("kind of " + p, x.kind(p), BAD);
        }
        due("no ship", new StormLots().kind(0), BAD);
        due("of fewer", Check.told("s7,9,2;a1;").kind(1), BAD);
    }

    private static void asOneOfAKind() {
        says("as: A PERSON is taken as one of a KIND (0 .. 5): its number. KIND: it is no such one");
        StormLots x = Check.told(ALL);
        String[] is = {"110000", "111000", "110100", "100010", "100011", "110000"};
        for (int p = 0; p < 6; p++) {
            for (int k = 0; k < 6; k++) {
                boolean it = is[p].charAt(k) == '1';
                due(p + " as " + k, x.as(p, k), it ? p : KIND);
                due("status", x.status(), it ? 0 : 3);
            }
        }
    }

    private static void asIsBad() {
        says("as: BAD, ahead of KIND");
        StormLots x = Check.told(ALL);
        for (int p : NOBODY) {
            due(p + " as 0", x.as(p, 0), BAD);
        }
        for (int k : new int[] {-1, 6, MIN, MAX}) {
            due("0 as " + k, x.as(0, k), BAD);
        }
        due("no ship", new StormLots().as(0, 0), BAD);
        due("status", x.status(), 0);
    }

    private static void askIs(StormLots x, int one, int what, int want, int... trace) {
        due("ask " + one + " " + what, x.ask(one, what), want);
        for (int i = 0; i < trace.length; i++) {
            due("trace " + i + " of " + one + " " + what, x.trace(i), trace[i]);
        }
        for (int i = trace.length; i < 18; i++) {
            due("trace " + i + " of " + one + " " + what, x.trace(i), NONE);
        }
    }

    private static void bodyOfTheNearestKind() {
        says("Of an ask the BODY told for the KIND begins, else that of the nearest KIND that it is, too, else the one that "
            + "is lent; SIZE, MARK within others are asked of the same PERSON anew");
        StormLots x = Check.told(ALL);
        askIs(x, 0, 0, 1 + 0 + 7, 11, 10, 21, 20);
        askIs(x, 0, 1, 0 + 7, 21, 20);
        askIs(x, 1, 0, -(2 + 2 * (1 + 3)), 12, 11, 10, 24, 21, 20);
        askIs(x, 1, 1, 2 * (1 + 3), 24, 21, 20);
        askIs(x, 2, 0, 3 + 2 + 6 - 1000, 11, 10, 22, 21, 20);
        askIs(x, 2, 1, 2 + 6 - 1000, 22, 21, 20);
        askIs(x, 3, 0, 4 - 100, 13, 10);
        askIs(x, 3, 1, 3 - (4 - 100), 23, 20, 13, 10);
        askIs(x, 4, 0, 2 * (5 - 100), 14, 13, 10);
        askIs(x, 4, 1, 4 - 2 * (5 - 100), 23, 20, 14, 13, 10);
        askIs(x, 5, 0, 6 + 5 + 7, 11, 10, 21, 20);
        askIs(x, 5, 1, 5 + 7, 21, 20);
    }

    private static void truthWithinAnAsk() {
        says("21 of SAILORS: what 20 gives, and TRUTH: 0 at least of a priest, 0 of one who does not DRAW");
        StormLots x = Check.told("s0,9,2;r1;o1;a1;");
        askIs(x, 0, 1, -1000, 22, 21, 20);
        askIs(x, 1, 1, 2, 24, 21, 20);
        askIs(x, 2, 1, 2, 21, 20);
        x = Check.told("s10,9,2;r1;o1;a1;");
        askIs(x, 0, 1, 9 - 1000, 22, 21, 20);
        askIs(x, 1, 1, 2 * (1 + 5), 24, 21, 20);
        askIs(x, 2, 1, 12, 21, 20);
        x.throwOver(2, 0);
        askIs(x, 2, 1, 2, 21, 20);
        askIs(x, 2, 0, 1 + 2, 11, 10, 21, 20);
        x = Check.told("s10,9,2;a1;g1;");
        x.joins(1);
        askIs(x, 1, 1, 1 - (1 - 100), 23, 20, 13, 10);
    }

    private static void askIsBad() {
        says("ask: An ASK (0, 1) of a PERSON. BAD");
        StormLots x = Check.told(ALL);
        for (int p : NOBODY) {
            due("ask " + p, x.ask(p, 0), BAD);
        }
        for (int what : new int[] {-1, 2, MIN, MAX}) {
            due("what " + what, x.ask(0, what), BAD);
        }
        due("no ship", new StormLots().ask(0, 0), BAD);
    }

    private static void traceIsEmptyAhead() {
        says("THE TRACE is empty ahead of it");
        StormLots x = Check.told(ALL);
        askIs(x, 1, 0, -10, 12, 11, 10, 24, 21, 20);
        askIs(x, 3, 0, -96, 13, 10);
        askIs(x, 3, 0, -96, 13, 10);
    }

    private static void traceOfNone() {
        says("trace: Number i of THE TRACE; NONE");
        StormLots x = Check.told(ALL);
        for (int i : new int[] {0, 15, 16, -1, MIN, MAX}) {
            due("before an ask " + i, x.trace(i), NONE);
        }
        x.ask(1, 0);
        due("the first", x.trace(0), 12);
        due("the last", x.trace(5), 20);
        for (int i : new int[] {6, 15, 16, 17, -1, MIN, MAX}) {
            due("none " + i, x.trace(i), NONE);
        }
        due("no ship", new StormLots().trace(0), NONE);
    }

    private static void traceOfRefusedAsk() {
        says("What is refused changes nothing: THE TRACE stays behind an ask that is BAD, and behind other calls");
        StormLots x = Check.told(ALL);
        x.ask(3, 0);
        x.ask(0, 2);
        x.ask(6, 0);
        x.hour();
        x.as(0, 0);
        x.image(0);
        x.restore(0);
        Check.feed(x, "s1,1,1;a1;");
        x.ship();
        due("the first", x.trace(0), 13);
        due("the last", x.trace(1), 10);
        due("the end", x.trace(2), NONE);
    }

    private static void countsOfNothing() {
        says("count: of a new object there are none");
        StormLots x = new StormLots();
        for (int what = 0; what < 6; what++) {
            due("count " + what, x.count(what), 0);
        }
    }

    private static void countsOfAll() {
        says("count: 0 ROWS, 1 PEOPLE, 2 who are aboard, 3 who DRAW, 4 ACTS that can be undone, 5 bytes on the tape");
        StormLots x = Check.told("s7,20,2;a1;o2;r3;g4;w5;a6;");
        for (int r = 0; r < 8; r++) {
            x.row(r, r % 3, r == 3 ? 0 : r);
        }
        for (int i = 0; i < 25; i++) {
            if (i < 3) {
                x.cargo();
            } else {
                x.hour();
            }
        }
        for (int i = 0; i < 80; i++) {
            x.feed(i);
        }
        int[] most = {8, 6, 6, 4, 24, 80};
        for (int what = 0; what < 6; what++) {
            due("count " + what, x.count(what), most[what]);
        }
        x = Check.told(ALL);
        x.joins(3);
        x.throwOver(0, 0);
        x.throwOver(4, 1);
        x.row(3, 0, 0);
        int[] some = {1, 6, 4, 4, 3, 0};
        for (int what = 0; what < 6; what++) {
            due("count " + what, x.count(what), some[what]);
        }
        x = Check.told("s7,20,2;a1;");
        x.throwOver(0, 1);
        int[] nobody = {0, 1, 0, 0, 1, 0};
        for (int what = 0; what < 6; what++) {
            due("count " + what, x.count(what), nobody[what]);
        }
    }

    private static void countIsBad() {
        says("count: BAD");
        for (int what : new int[] {-1, 6, MIN, MAX}) {
            due("no ship, what " + what, new StormLots().count(what), BAD);
            due("what " + what, Check.told(ALL).count(what), BAD);
        }
    }

    private static void statusAtFirst() {
        says("status: 0: it had none, or there was none");
        StormLots x = new StormLots();
        due("new", x.status(), 0);
        x.row(8, 0, 0);
        x.drop(-1);
        due("all were BAD", x.status(), 0);
        x.row(0, 0, 0);
        due("it had none", x.status(), 0);
    }

    private static void statusOfEachFinding() {
        says("status: the number of its FINDING: 1 NULL, 2 PLACE, 3 KIND, 4 SIZE, 5 STORE; of several the first in time");
        StormLots x = Check.told(ALL);
        x.row(0, 0, 4);
        x.row(1, 1, 4);
        due("NULL", x.drop(7), -1000011);
        due("status", x.status(), 1);
        due("PLACE", x.set(0, 4, 0), -1000012);
        due("status", x.status(), 2);
        due("KIND", x.as(0, 4), -1000013);
        due("status", x.status(), 3);
        due("SIZE", x.row(0, 0, -1), -1000014);
        due("status", x.status(), 4);
        due("STORE", x.copy(0, 0, 1, 0, 1), -1000015);
        due("status", x.status(), 5);
        due("NULL ahead of PLACE", x.been(7, -1, 1, 0), -1000011);
        due("status", x.status(), 1);
        due("STORE ahead of PLACE", x.copy(0, -1, 1, 0, 1), -1000015);
        due("status", x.status(), 5);
    }

    /** An object whose status is 5. */
    private static StormLots withStatus() {
        StormLots x = Check.told(ALL);
        x.row(0, 0, 4);
        x.row(1, 1, 4);
        x.set(0, 0, 64);
        x.copy(0, 0, 1, 0, 1);
        return x;
    }

    private static void statusIs(String call, int want, StormLots x, long answer) {
        due("status behind " + call + ", " + answer, x.status(), want);
    }

    private static void statusBehindRefusals() {
        says("status: Of the latest call with a ROW, or as(), that was not BAD, STATE, FULL");
        StormLots x = withStatus();
        statusIs("row BAD", 5, x, x.row(8, 0, 0));
        statusIs("row BAD", 5, x, x.row(0, 3, -1));
        statusIs("row BAD", 5, x, x.row(0, 0, 41));
        statusIs("set BAD", 5, x, x.set(8, 0, 0));
        statusIs("copy BAD", 5, x, x.copy(0, 0, 8, 0, 1));
        statusIs("drop BAD", 5, x, x.drop(-1));
        statusIs("as BAD", 5, x, x.as(0, 6));
        statusIs("as BAD", 5, x, x.as(6, 0));
        statusIs("been BAD", 5, x, x.been(0, 0, 0, 0));
        statusIs("been BAD, no set", 5, x, x.been(0, 0, 1, 0));
        statusIs("been", 0, x, x.been(0, 2, 1, 0));
        x = new StormLots();
        statusIs("row SIZE", 4, x, x.row(0, 0, -1));
        statusIs("been STATE", 4, x, x.been(0, 0, 1, 0));
        statusIs("as BAD, no ship", 4, x, x.as(0, 0));
        x = withStatus();
        statusIs("row", 0, x, x.row(0, 0, 4));
        x = withStatus();
        statusIs("set", 0, x, x.set(0, 0, 4));
        x = withStatus();
        statusIs("copy", 0, x, x.copy(0, 0, 0, 2, 2));
        x = withStatus();
        statusIs("drop", 0, x, x.drop(0));
        x = withStatus();
        statusIs("as", 0, x, x.as(0, 0));
    }

    private static void statusBehindOtherCalls() {
        says("status: Of the latest call with a ROW, or as(): no other call changes it");
        StormLots x = withStatus();
        statusIs("status", 5, x, x.status());
        statusIs("feed", 5, x, x.feed('s'));
        statusIs("feed BAD", 5, x, x.feed(-1));
        statusIs("ship", 5, x, x.ship());
        statusIs("fault", 5, x, x.fault());
        statusIs("cargo", 5, x, x.cargo());
        statusIs("undo", 5, x, x.undo());
        statusIs("undo STATE", 5, x, x.undo());
        statusIs("joins", 5, x, x.joins(3));
        statusIs("joins STATE", 5, x, x.joins(3));
        statusIs("cast", 5, x, x.cast(0));
        statusIs("cast BAD", 5, x, x.cast(6));
        statusIs("hour", 5, x, x.hour());
        statusIs("throwOver", 5, x, x.throwOver(0, 0));
        statusIs("person", 5, x, x.person(0, 0));
        statusIs("sea", 5, x, x.sea(0));
        statusIs("likelihood", 5, x, x.likelihood(0));
        statusIs("belief", 5, x, x.belief(0, 0));
        statusIs("likeliest", 5, x, x.likeliest());
        statusIs("named", 5, x, x.named(1, 0));
        statusIs("tells", 5, x, x.tells());
        statusIs("saved", 5, x, x.saved(2, 0));
        statusIs("sure", 5, x, x.sure(1, 50));
        statusIs("price", 5, x, x.price(1, 50, -1));
        statusIs("storm", 5, x, x.storm(50, 50, 0));
        statusIs("image", 5, x, x.image(0));
        statusIs("restore", 5, x, x.restore(0));
        statusIs("kind", 5, x, x.kind(0));
        statusIs("ask", 5, x, x.ask(0, 0));
        statusIs("trace", 5, x, x.trace(0));
        statusIs("count", 5, x, x.count(0));
    }

    private static void theLastCall() {
        says("An object is used for at most 512 calls after it has been made: the last of them, too");
        StormLots x = new StormLots();
        int calls = 0;
        for (char letter : "s9,20,1;g1;g1;g1;".toCharArray()) {
            x.feed(letter);
            calls++;
        }
        x.ship();
        calls++;
        while (calls < 510) {
            x.joins(0);
            x.undo();
            calls += 2;
        }
        due("call 511", x.joins(1), 1);
        due("call 512", x.undo(), 0);
    }
}
