/** Each sentence of the document that names a boundary case of TEXTS (Terms 1, promises 6 to 8). */
public final class TextEdgeTest {
    private static final int BAD = -1000001, STATE = -1000002, FULL = -1000003, FAULTY = -1000100;
    private static final int MIN = Integer.MIN_VALUE, MAX = Integer.MAX_VALUE;
    private static final Check check = new Check();

    private TextEdgeTest() {
    }

    private static void due(String call, long got, long want) {
        check.due(call, got, want);
    }

    private static void says(String sentence) {
        check.where = sentence;
    }

    public static void main(String[] args) {
        eightyBytes();
        feedIsBad();
        badAheadOfFull();
        eachByteAtEachPlace();
        twoFiguresAtMost();
        numbersAsTold();
        numbersWithANought();
        eachLetterAsSort();
        oneAtLeast();
        sixAtMost();
        aPersonMore();
        ofOneTokenTheLeast();
        theFirstToken();
        theEnd();
        threeFiguresAtTheirFirst();
        emptyThen();
        allStays();
        inPlaceOfTheOneBefore();
        faultBeforeOne();
        faultIsTheLatest();
        check.end();
    }

    private static void reads(String text, long want, int fault) {
        StormLots x = new StormLots();
        Check.feed(x, text);
        due("reading " + text, x.ship(), want);
        due("the fault of " + text, x.fault(), fault);
        due("the tape behind " + text, x.count(5), 0);
        due("people behind " + text, x.count(1), Math.max(want, 0));
    }

    private static void eightyBytes() {
        says("THE TAPE has at most 80 bytes; feed: FULL");
        StormLots x = new StormLots();
        due("empty", x.count(5), 0);
        for (int i = 1; i <= 80; i++) {
            due("feed", x.feed('s'), i);
        }
        due("one more", x.feed('s'), FULL);
        due("one more", x.feed(0), FULL);
        due("count", x.count(5), 80);
        due("read", x.ship(), FAULTY - 1);
        due("room again", x.feed('s'), 1);
    }

    private static void feedIsBad() {
        says("feed: A byte (0 to 255) comes behind the tape. BAD");
        StormLots x = new StormLots();
        for (int letter : new int[] {-1, 256, MIN, MAX, 's' + 256, 's' - 256}) {
            due("feed " + letter, x.feed(letter), BAD);
        }
        due("none came", x.count(5), 0);
        due("0", x.feed(0), 1);
        due("255", x.feed(255), 2);
    }

    private static void badAheadOfFull() {
        says("feed: BAD is ahead of FULL");
        StormLots x = new StormLots();
        for (int i = 0; i < 80; i++) {
            x.feed(i);
        }
        due("-1", x.feed(-1), BAD);
        due("256", x.feed(256), BAD);
        due("255", x.feed(255), FULL);
    }

    /** One byte of s5,5,5;a1; is another one: what is due then, and which fault. */
    private static int[] withByte(int place, int b) {
        boolean figure = b >= '0' && b <= '9';
        int people = 1;
        switch (place) {
            case 0: return b == 's' ? new int[] {people, 0} : new int[] {FAULTY, 1};
            case 1: case 5: return figure ? new int[] {people, 0} : new int[] {FAULTY - place, 1};
            // a figure between two others makes a run of three
            case 2: case 4:
                return b == ',' ? new int[] {people, 0} : new int[] {FAULTY - (figure ? place - 1 : place), 1};
            case 3: case 8:
                return b == '0' ? new int[] {FAULTY - place, 2} : figure ? new int[] {people, 0}
                    : new int[] {FAULTY - place, 1};
            // a figure behind the last number makes one that is too large: 50 .. 59, 10 .. 19
            case 6: case 9:
                return b == ';' ? new int[] {people, 0} : figure ? new int[] {FAULTY - place + 1, 2}
                    : new int[] {FAULTY - place, 1};
            default: return "aorgw".indexOf(b) >= 0 ? new int[] {people, 0} : new int[] {FAULTY - place, 1};
        }
    }

    private static void eachByteAtEachPlace() {
        says("TOKENS: letters a to z (each by itself), NUMBERS, SIGNS , and ; nothing else: each byte at each place");
        String text = "s5,5,5;a1;";
        for (int place = 0; place < text.length(); place++) {
            for (int b = 0; b < 256; b++) {
                int[] want = withByte(place, b);
                reads(text.substring(0, place) + (char) b + text.substring(place + 1), want[0], want[1]);
            }
        }
        reads(text + (char) 0, FAULTY - 10, 1);
        reads(text + (char) 255, FAULTY - 10, 1);
        reads(text + '\n', FAULTY - 10, 1);
        reads(text + ' ', FAULTY - 10, 1);
        reads(' ' + text, FAULTY, 1);
        reads("s5, 5,5;a1;", FAULTY - 3, 1);
        reads("ss5,5,5;a1;", FAULTY - 1, 1);
        reads("s5,5,5;aa1;", FAULTY - 8, 1);
        reads("s5,5,5;a1;;", FAULTY - 10, 1);
        reads("s5,5,5;;a1;", FAULTY - 7, 1);
        reads("s-5,5,5;a1;", FAULTY - 1, 1);
    }

    private static void twoFiguresAtMost() {
        says("NUMBERS (figures, 2 at most)");
        reads("s1,1,1;a1;", 1, 0);
        reads("s01,01,01;a01;", 1, 0);
        reads("s001,1,1;a1;", FAULTY - 1, 1);
        reads("s1,001,1;a1;", FAULTY - 3, 1);
        reads("s1,1,001;a1;", FAULTY - 5, 1);
        reads("s1,1,1;a001;", FAULTY - 8, 1);
        reads("s0001,1,1;a1;", FAULTY - 1, 1);
        reads("s1,1,1;a00000000000000000001;", FAULTY - 8, 1);
    }

    private static void isAsTold(int n, String number, int least, int most, String ahead, String behind) {
        boolean right = n >= least && n <= most;
        reads(ahead + number + behind, right ? 1 : FAULTY - ahead.length(), right ? 0 : 2);
    }

    private static void lawAndWeightBy(int n, String number) {
        isAsTold(n, number, 0, 10, "s", ",5,5;a1;");
        isAsTold(n, number, 1, 20, "s5,", ",5;a1;");
        isAsTold(n, number, 0, 19, "s5,5,", ";a1;");
        isAsTold(n, number, 1, 9, "s5,5,5;a", ";");
    }

    private static void numbersAsTold() {
        says("law: s TRUE , SINK , DROP ; (0 to 10; 1 to 20; 0 to 19). person: SORT WEIGHT ; (1 to 9)");
        for (int n = 0; n < 100; n++) {
            lawAndWeightBy(n, "" + n);
        }
        StormLots x = Check.told("s10,20,19;a9;a9;");
        due("TRUE", x.person(0, 3), 10);
        due("SINK", x.sea(1), 20);
        due("WEIGHT", x.person(0, 0), 9);
        // 1/2 by the throw, 1/2 * 19/20 by itself
        due("DROP", x.saved(1, 0), 39);
        due("DROP", x.saved(1, 1), 40);
        x = Check.told("s0,1,0;a1;a1;");
        due("TRUE", x.person(0, 3), 0);
        due("SINK", x.sea(1), 1);
        due("WEIGHT", x.person(0, 0), 1);
        due("DROP", x.saved(1, 0), 1);
        due("DROP", x.saved(1, 1), 2);
    }

    private static void numbersWithANought() {
        says("NUMBERS (figures, 2 at most): one figure behind a nought is that figure");
        for (int n = 0; n < 10; n++) {
            lawAndWeightBy(n, "0" + n);
        }
        StormLots x = Check.told("s07,08,00;a09;");
        due("TRUE", x.person(0, 3), 7);
        due("SINK", x.sea(1), 8);
        due("WEIGHT", x.person(0, 0), 9);
    }

    private static void eachLetterAsSort() {
        says("SORT: a a sailor, o one who is sworn, r a priest, g a passenger, w a stowaway");
        for (char letter = 'a'; letter <= 'z'; letter++) {
            int kind = 1 + "aorgw".indexOf(letter);
            StormLots x = new StormLots();
            Check.feed(x, "s5,5,5;" + letter + "1;");
            due("ship of " + letter, x.ship(), kind > 0 ? 1 : FAULTY - 7);
            due("kind of " + letter, x.kind(0), kind > 0 ? kind : BAD);
            reads("s5,5,5;" + Character.toUpperCase(letter) + "1;", FAULTY - 7, 1);
        }
    }

    private static void oneAtLeast() {
        says("PEOPLE 0 .. 5, 6 at most; one at least");
        reads("s5,5,5;", FAULTY - 7, 1);
        reads("s5,5,5;a1;", 1, 0);
    }

    private static String people(int n) {
        return "a1;o2;r3;g4;w5;a6;o7;r8;".substring(0, 3 * n);
    }

    private static void sixAtMost() {
        says("PEOPLE 0 .. 5, 6 at most");
        for (int n = 1; n <= 6; n++) {
            StormLots x = Check.told("s5,5,5;" + people(n));
            due("people", x.count(1), n);
            due("aboard", x.count(2), n);
            for (int p = 0; p < n; p++) {
                due("weight", x.person(p, 0), p + 1);
            }
            due("the next one", x.person(n, 0), BAD);
        }
        reads("s5,5,5;" + people(7), FAULTY - 25, 3);
        reads("s5,5,5;" + people(8), FAULTY - 25, 3);
    }

    private static void aPersonMore() {
        says("3 a person more than there is room for (its letter)");
        for (char letter : "aorgw".toCharArray()) {
            reads("s5,5,5;" + people(6) + letter, FAULTY - 25, 3);
            reads("s5,5,5;" + people(6) + letter + "1;", FAULTY - 25, 3);
            reads("s5,5,5;" + people(6) + letter + "0;", FAULTY - 25, 3);
            reads("s5,5,5;" + people(6) + letter + ";", FAULTY - 25, 3);
        }
        reads("s10,20,19;" + people(6) + "a1;", FAULTY - 28, 3);
    }

    private static void ofOneTokenTheLeast() {
        says("of one TOKEN the least");
        for (String token : new String[] {"b", "s", "z", ",", ";", "1", "11", "111", " ", "A"}) {
            reads("s5,5,5;" + people(6) + token, FAULTY - 25, 1);
        }
        reads("s999,5,5;a1;", FAULTY - 1, 1);
        reads("s5,000,5;a1;", FAULTY - 3, 1);
        reads("s5,5,5;a000;", FAULTY - 8, 1);
        reads("99", FAULTY, 1);
        reads("s5,5,5;99;", FAULTY - 7, 1);
    }

    private static void theFirstToken() {
        says("FAULTS, the first TOKEN that has one (its first byte)");
        reads("s11,21,20;b0;", FAULTY - 1, 2);
        reads("s10,21,20;b0;", FAULTY - 4, 2);
        reads("s10,20,20;b0;", FAULTY - 7, 2);
        reads("s10,20,19;b0;", FAULTY - 10, 1);
        reads("s10,20,19;a0,", FAULTY - 11, 2);
        reads("s10,20,19;a9,", FAULTY - 12, 1);
        reads("s99", FAULTY - 1, 2);
        reads("s5,5,5;a10", FAULTY - 8, 2);
        reads("s5,5,5;" + people(5) + "a0;a1;", FAULTY - 23, 2);
        reads("s5,5,5;" + people(5) + "a1,a1;", FAULTY - 24, 1);
    }

    private static void theEnd() {
        says("1 it cannot stand there, or is none (the end: how many bytes there are)");
        String text = "s10,20,19;a9;o8;r7;g6;w5;a4;";
        for (int length = 0; length <= text.length(); length++) {
            boolean whole = length > 10 && (length - 10) % 3 == 0;
            reads(text.substring(0, length), whole ? (length - 10) / 3 : FAULTY - length, whole ? 0 : 1);
        }
    }

    private static void threeFiguresAtTheirFirst() {
        says("1 .. or is none (a run of three figures, at its first)");
        reads("s100", FAULTY - 1, 1);
        reads("s010,5,5;a1;", FAULTY - 1, 1);
        reads("s5,020,5;a1;", FAULTY - 3, 1);
        reads("s5,5,019;a1;", FAULTY - 5, 1);
        reads("s5,5,5;a1;a009;", FAULTY - 11, 1);
        reads("123", FAULTY, 1);
        reads("s5123,5;a1;", FAULTY - 1, 1);
        reads("s5,5,5;123", FAULTY - 7, 1);
    }

    private static void emptyThen() {
        says("ship: The tape, empty then, is read");
        StormLots x = new StormLots();
        due("nothing on it", x.ship(), FAULTY);
        Check.feed(x, "s5,5,5;a1;");
        due("read", x.ship(), 1);
        due("empty", x.count(5), 0);
        due("read again", x.ship(), FAULTY);
        Check.feed(x, "s5,5,5;");
        due("a fault", x.ship(), FAULTY - 7);
        due("empty", x.count(5), 0);
        Check.feed(x, "a1;");
        due("not behind what was read", x.ship(), FAULTY);
        Check.feed(x, "s5,5,5;a1;a1;");
        due("read", x.ship(), 2);
    }

    private static StormLots ahead() {
        StormLots x = Check.told("s6,9,4;a3;o5;r1;g4;w2;a7;");
        x.row(0, 0, 2);
        x.cargo();
        x.joins(3);
        x.cast(0);
        x.image(1);
        x.throwOver(1, 0);
        x.ask(0, 0);
        return x;
    }

    private static void allStays() {
        says("ship: less the place of a FAULT: all stays");
        String[] wrong = {"", "s", "s11,1,1;a1;", "s1,1,1;", "s1,1,1;a1;b", "s1,1,1;" + people(7)};
        for (String text : wrong) {
            StormLots x = ahead();
            x.ship();
            StormLots y = ahead();
            Check.feed(y, text);
            y.ship();
            due("acts behind " + text, y.count(4), 4);
            Check.feed(x, "99");
            Check.feed(y, "99");
            x.ship();
            y.ship();
            check.holds("all stays behind " + text, Look.at(x).equals(Look.at(y)));
        }
    }

    private static void inPlaceOfTheOneBefore() {
        says("A SHIP that is read stands in place of the one before (none at first): HOUR 0, all are aboard, it storms; "
            + "nothing was cast, no cargo thrown; no ACT can be undone");
        StormLots none = new StormLots();
        due("none at first", none.sea(0), STATE);
        StormLots x = ahead();
        x.throwOver(2, 1);
        Check.feed(x, "s9,3,1;g7;r2;");
        due("ship", x.ship(), 2);
        int[] sea = {0, 3, 1, 0, 0};
        for (int what = 0; what < 5; what++) {
            due("sea " + what, x.sea(what), sea[what]);
        }
        int[] count = {1, 2, 2, 1, 0, 0};
        for (int what = 0; what < 6; what++) {
            due("count " + what, x.count(what), count[what]);
        }
        due("one who joined before", x.person(0, 2), 0);
        due("no ACT", x.undo(), STATE);
        due("nobody more", x.likelihood(2), BAD);
        due("the image stays", x.restore(1), 1);
        due("her people", x.count(1), 6);
        StormLots sunk = Check.told("s1,1,1;a1;");
        sunk.hour();
        Check.feed(sunk, "s1,1,1;a1;");
        due("behind one that sank", sunk.ship(), 1);
        due("it storms", sunk.sea(2), 1);
        due("an hour", sunk.hour(), 1);
    }

    private static void faultBeforeOne() {
        says("fault: 0 before one");
        StormLots x = new StormLots();
        due("new", x.fault(), 0);
        Check.feed(x, "s1,1,1;a1;");
        due("not read yet", x.fault(), 0);
        x.ship();
        due("read without one", x.fault(), 0);
        x.feed(-1);
        x.row(9, 9, 9);
        x.set(0, 0, 0);
        due("refusals are none", x.fault(), 0);
    }

    private static void faultIsTheLatest() {
        says("fault: The number of the latest FAULT");
        StormLots x = new StormLots();
        String[] texts = {"s5,5,5;" + people(7), "s11", "s1,1,1;a1;", "", "s1,1,1;a1;", "s5,5,5;" + people(7)};
        int[] dues = {3, 2, 2, 1, 1, 3};
        for (int i = 0; i < texts.length; i++) {
            Check.feed(x, texts[i]);
            x.ship();
            due("behind " + texts[i], x.fault(), dues[i]);
        }
    }
}
