/** Each sentence of the document that names a boundary case of the ROWS (Terms 1, promises 2 to 5). */
public final class RowEdgeTest {
    private static final int BAD = -1000001;
    private static final int NULL = -1000011, PLACE = -1000012, SIZE = -1000014, STORE = -1000015;
    private static final int MIN = Integer.MIN_VALUE, MAX = Integer.MAX_VALUE;
    private static final int[] NO_ROWS = {-1, 8, 9, MIN, MAX};
    private static final Check check = new Check();

    private RowEdgeTest() {
    }

    private static void due(String call, long got, long want) {
        check.due(call, got, want);
    }

    private static void says(String sentence) {
        check.where = sentence;
    }

    public static void main(String[] args) {
        missingAtFirst();
        noneToForty();
        zeroAtFirst();
        inPlaceOfWhatIsThere();
        rowIsBad();
        rowIsTooSmall();
        badAheadOfSize();
        lowestBits();
        keepsLowestBits();
        setIsBad();
        setIsNull();
        setIsAtNoPlace();
        copiesAsTheyWere();
        copiesNone();
        copyIsBad();
        copyIsNull();
        copyIsOfTwoLanes();
        copyIsAtNoPlace();
        dropsMissing();
        dropIsBad();
        check.end();
    }

    /** A ship of six, so that a voyage in a row can be seen by been(). */
    private static StormLots sailing() {
        return Check.told("s5,9,1;a1;a1;a1;a1;a1;a1;");
    }

    private static void missingAtFirst() {
        says("ROWS 0 .. 7 are missing (at first)");
        StormLots x = sailing();
        due("count", x.count(0), 0);
        for (int r = 0; r < 8; r++) {
            due("set " + r, x.set(r, 0, 0), NULL);
            due("copy from " + r, x.copy(r, 0, r, 0, 0), NULL);
            due("been " + r, x.been(r, 0, 1, 0), NULL);
            due("drop " + r, x.drop(r), NULL);
        }
        for (int r = 0; r < 8; r++) {
            due("row " + r, x.row(r, 0, 1), 1);
            due("count", x.count(0), r + 1);
        }
    }

    private static void noneToForty() {
        says("or have a LANE (0 bytes, 1 shorts, 2 ints) and 0 to 40 ITEMS");
        for (int lane = 0; lane < 3; lane++) {
            StormLots x = new StormLots();
            for (int n = 0; n <= 40; n++) {
                due("row of " + n, x.row(7, lane, n), n);
                due("the last of " + n, x.set(7, n - 1, 1), n == 0 ? PLACE : 1);
                due("beyond " + n, x.set(7, n, 1), PLACE);
                due("drop of " + n, x.drop(7), n);
            }
        }
    }

    private static void zeroAtFirst() {
        says("0 to 40 ITEMS, 0 at first");
        for (int lane = 0; lane < 3; lane++) {
            StormLots x = sailing();
            x.row(0, lane, 40);
            for (int i = 0; i < 40; i += 2) {
                due("nobody aboard, no storm at " + i, x.been(0, i, 1, 0), 63);
            }
            for (int i = 0; i < 40; i++) {
                x.set(0, i, 1);
            }
            due("all set", x.been(0, 38, 1, 0), 1);
            x.drop(0);
            x.row(0, lane, 40);
            for (int i = 0; i < 40; i += 2) {
                due("anew behind a drop at " + i, x.been(0, i, 1, 0), 63);
            }
        }
    }

    private static void inPlaceOfWhatIsThere() {
        says("A ROW of a LANE with n ITEMS, in place of what is there");
        StormLots x = sailing();
        x.row(3, 2, 4);
        x.set(3, 0, 5);
        x.set(3, 1, 1);
        due("there", x.been(3, 0, 1, 0), 5);
        due("as many", x.row(3, 2, 4), 4);
        due("0 again", x.been(3, 0, 1, 0), 63);
        due("fewer, of another lane", x.row(3, 0, 2), 2);
        due("the lane", x.set(3, 1, 300), 44);
        due("no third", x.set(3, 2, 0), PLACE);
        due("more, of another lane", x.row(3, 1, 40), 40);
        due("the lane", x.set(3, 39, 300), 300);
        due("0 again", x.been(3, 0, 1, 0), 63);
        due("none", x.row(3, 1, 0), 0);
        due("no first", x.set(3, 0, 0), PLACE);
        due("one row", x.count(0), 1);
    }

    private static void rowIsBad() {
        says("row: BAD: ROW, LANE, n above 40");
        StormLots x = new StormLots();
        for (int r : NO_ROWS) {
            due("row " + r, x.row(r, 0, 1), BAD);
        }
        for (int lane : new int[] {-1, 3, MIN, MAX}) {
            due("lane " + lane, x.row(0, lane, 1), BAD);
        }
        for (int n : new int[] {41, 42, 1000, MAX}) {
            due("n " + n, x.row(0, 0, n), BAD);
        }
        due("none was made", x.count(0), 0);
        due("the ends are as told", x.row(0, 0, 40) + x.row(7, 2, 40), 80);
    }

    private static void rowIsTooSmall() {
        says("row: SIZE (fewer than none)");
        StormLots x = new StormLots();
        for (int n : new int[] {-1, -2, MIN}) {
            due("n " + n, x.row(0, 0, n), SIZE);
            due("status", x.status(), 4);
        }
        due("none was made", x.count(0), 0);
        due("none is enough", x.row(0, 0, 0), 0);
        due("status", x.status(), 0);
    }

    private static void badAheadOfSize() {
        says("row: BAD is ahead of SIZE");
        StormLots x = new StormLots();
        due("row", x.row(8, 0, -1), BAD);
        due("lane", x.row(0, 3, -1), BAD);
        due("status", x.status(), 0);
    }

    private static void lowestBits() {
        says("ITEM i becomes v, its lowest bits, as many as the LANE has: what it is then");
        StormLots x = new StormLots();
        for (int lane = 0; lane < 3; lane++) {
            x.row(lane, lane, 1);
        }
        int[][] dues = {
            {0, 0, 0, 0}, {127, 127, 127, 127}, {128, -128, 128, 128}, {255, -1, 255, 255}, {256, 0, 256, 256},
            {257, 1, 257, 257}, {-128, -128, -128, -128}, {-129, 127, -129, -129}, {-1, -1, -1, -1},
            {32767, -1, 32767, 32767}, {32768, 0, -32768, 32768}, {65535, -1, -1, 65535}, {65536, 0, 0, 65536},
            {-32768, 0, -32768, -32768}, {-32769, -1, 32767, -32769}, {MAX, -1, -1, MAX}, {MIN, 0, 0, MIN}
        };
        for (int[] d : dues) {
            for (int lane = 0; lane < 3; lane++) {
                due("set " + d[0] + " in lane " + lane, x.set(lane, 0, d[0]), d[1 + lane]);
            }
        }
    }

    private static void keepsLowestBits() {
        says("what it is then: the lowest bits are kept, not v");
        StormLots x = sailing();
        for (int lane = 0; lane < 3; lane++) {
            x.row(lane, lane, 2);
            x.set(lane, 1, 1);
        }
        x.set(0, 0, 256 + 9);
        due("of bytes", x.been(0, 0, 1, 0), 9);
        x.set(1, 0, 65536 + 9);
        due("of shorts", x.been(1, 0, 1, 0), 9);
        x.set(1, 0, 256 + 9);
        due("of shorts, no set", x.been(1, 0, 1, 0), BAD);
        x.set(2, 0, 65536 + 9);
        due("of ints, no set", x.been(2, 0, 1, 0), BAD);
    }

    private static void setIsBad() {
        says("set: BAD: ROW");
        StormLots x = new StormLots();
        for (int r : NO_ROWS) {
            due("row " + r, x.set(r, 0, 1), BAD);
            due("ahead of PLACE " + r, x.set(r, -1, 1), BAD);
        }
    }

    private static void setIsNull() {
        says("set: NULL, ahead of PLACE");
        StormLots x = new StormLots();
        due("missing", x.set(0, 0, 1), NULL);
        due("missing, no place", x.set(7, -1, 1), NULL);
        due("status", x.status(), 1);
        x.row(0, 0, 3);
        x.drop(0);
        due("dropped", x.set(0, 0, 1), NULL);
    }

    private static void setIsAtNoPlace() {
        says("set: PLACE (no such place of a ROW)");
        StormLots x = new StormLots();
        x.row(0, 0, 3);
        x.row(1, 0, 0);
        for (int i : new int[] {-1, 3, 4, 39, 40, MIN, MAX}) {
            due("place " + i, x.set(0, i, 1), PLACE);
            due("status", x.status(), 2);
        }
        due("of none", x.set(1, 0, 1), PLACE);
        due("the first", x.set(0, 0, 1), 1);
        due("the last", x.set(0, 2, 1), 1);
        due("status", x.status(), 0);
    }

    private static StormLots withVoyages(int... sets) {
        StormLots x = sailing();
        x.row(0, 0, 2 * sets.length);
        for (int v = 0; v < sets.length; v++) {
            x.set(0, 2 * v, sets[v]);
            x.set(0, 2 * v + 1, 1);
        }
        return x;
    }

    private static void voyagesAre(StormLots x, int row, int... sets) {
        for (int v = 0; v < sets.length; v++) {
            due("voyage " + v + " of row " + row, x.been(row, 2 * v, 1, 0), sets[v]);
        }
    }

    private static void copiesAsTheyWere() {
        says("n ITEMS of a from i on come to b from j on, as they were ahead");
        StormLots x = withVoyages(1, 2, 4, 8, 16);
        due("onwards over itself", x.copy(0, 0, 0, 2, 8), 8);
        voyagesAre(x, 0, 1, 1, 2, 4, 8);
        x = withVoyages(1, 2, 4, 8, 16);
        due("back over itself", x.copy(0, 2, 0, 0, 8), 8);
        voyagesAre(x, 0, 2, 4, 8, 16, 16);
        x = withVoyages(1, 2, 4, 8, 16);
        due("all where they are", x.copy(0, 0, 0, 0, 10), 10);
        voyagesAre(x, 0, 1, 2, 4, 8, 16);
        x.row(1, 0, 40);
        due("to the end of another", x.copy(0, 0, 1, 30, 10), 10);
        due("the first came", x.been(1, 30, 1, 0), 1);
        due("the last came", x.been(1, 38, 1, 0), 16);
        due("none ahead of them", x.been(1, 28, 1, 0), 63);
        voyagesAre(x, 0, 1, 2, 4, 8, 16);
    }

    private static void copiesNone() {
        says("copy: n is 0, at the ends too");
        StormLots x = withVoyages(1, 2);
        x.row(1, 0, 0);
        due("at the ends", x.copy(0, 4, 1, 0, 0), 0);
        due("at the ends", x.copy(1, 0, 0, 4, 0), 0);
        due("of none", x.copy(1, 0, 1, 0, 0), 0);
        due("status", x.status(), 0);
        voyagesAre(x, 0, 1, 2);
    }

    private static void copyIsBad() {
        says("copy: BAD: ROWS, ahead of NULL");
        StormLots x = withVoyages(1);
        for (int r : NO_ROWS) {
            due("from " + r, x.copy(r, 0, 0, 0, 1), BAD);
            due("to " + r, x.copy(0, 0, r, 0, 1), BAD);
            due("from " + r + " to a missing one", x.copy(r, 0, 1, 0, 1), BAD);
            due("to " + r + " from a missing one", x.copy(1, 0, r, 0, 1), BAD);
        }
    }

    private static void copyIsNull() {
        says("copy: NULL, ahead of STORE and PLACE");
        StormLots x = withVoyages(1);
        due("from", x.copy(7, 0, 0, 0, 1), NULL);
        due("to", x.copy(0, 0, 7, 0, 1), NULL);
        due("both", x.copy(7, 0, 7, 0, 1), NULL);
        due("no place", x.copy(0, -1, 7, -1, -1), NULL);
        due("no place", x.copy(7, 0, 0, 3, 9), NULL);
        due("status", x.status(), 1);
    }

    private static void copyIsOfTwoLanes() {
        says("copy: STORE (ROWS of two LANES), ahead of PLACE");
        StormLots x = new StormLots();
        for (int lane = 0; lane < 3; lane++) {
            x.row(lane, lane, 2);
            x.row(4 + lane, lane, 2);
        }
        for (int a = 0; a < 3; a++) {
            for (int b = 0; b < 3; b++) {
                due("lanes " + a + " " + b, x.copy(a, 0, 4 + b, 0, 2), a == b ? 2 : STORE);
                due("none of lanes " + a + " " + b, x.copy(a, 0, 4 + b, 0, 0), a == b ? 0 : STORE);
                due("no place, lanes " + a + " " + b, x.copy(a, -1, 4 + b, 0, 2), a == b ? PLACE : STORE);
                due("status", x.status(), a == b ? 2 : 5);
            }
        }
    }

    private static void copyIsAtNoPlace() {
        says("copy: PLACE (i, j, n below 0, or beyond an end)");
        StormLots x = withVoyages(1, 2, 4);
        x.row(1, 0, 4);
        int[][] wrong = {
            {-1, 0, 1}, {0, -1, 1}, {0, 0, -1}, {MIN, 0, 1}, {0, MIN, 1}, {0, 0, MIN}, {-1, 0, 0}, {0, -1, 0},
            {7, 0, 0}, {0, 5, 0}, {6, 0, 1}, {0, 4, 1}, {3, 0, 4}, {0, 1, 4}, {0, 0, 5}, {0, 0, 7}, {5, 3, 2},
            {MAX, 0, 0}, {0, MAX, 0}, {0, 0, MAX}, {1, 0, MAX}, {0, 1, MAX}, {MAX, 0, MAX}, {0, MAX, MAX},
            {MAX, MAX, 2}, {2, -1, -1}, {-1, -1, 2}, {6, 4, -1}
        };
        for (int[] w : wrong) {
            due("copy from " + w[0] + " to " + w[1] + " of " + w[2], x.copy(0, w[0], 1, w[1], w[2]), PLACE);
            due("status", x.status(), 2);
        }
        voyagesAre(x, 1, 63, 63);
        due("to both ends", x.copy(0, 2, 1, 0, 4), 4);
        due("status", x.status(), 0);
        voyagesAre(x, 1, 2, 4);
    }

    private static void dropsMissing() {
        says("drop: A ROW is missing from now on: how many ITEMS it had. NULL");
        StormLots x = new StormLots();
        due("at first", x.drop(0), NULL);
        for (int n : new int[] {0, 1, 40}) {
            x.row(0, 1, n);
            x.row(1, 1, 5);
            due("drop", x.drop(0), n);
            due("rows", x.count(0), 1);
            due("again", x.drop(0), NULL);
            due("status", x.status(), 1);
            due("the other one", x.drop(1), 5);
            due("status", x.status(), 0);
        }
    }

    private static void dropIsBad() {
        says("drop: BAD");
        StormLots x = new StormLots();
        for (int r : NO_ROWS) {
            due("row " + r, x.drop(r), BAD);
        }
    }
}
