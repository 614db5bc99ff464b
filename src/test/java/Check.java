/** Counts and prints the answers that are not as due. */
final class Check {
    private int wrong;
    private int right;
    String where = "";

    void due(String call, long got, long want) {
        if (got == want) {
            right++;
            return;
        }
        wrong++;
        if (wrong <= 50) {
            System.out.println(where + ": " + call + " answered " + got + ", due is " + want);
        }
    }

    void holds(String what, boolean it) {
        due(what, it ? 1 : 0, 1);
    }

    void end() {
        System.out.println(right + " answers as due, " + wrong + " not");
        if (wrong != 0 || right == 0) {
            System.exit(1);
        }
    }

    static void feed(StormLots x, String text) {
        for (int i = 0; i < text.length(); i++) {
            x.feed(text.charAt(i));
        }
    }

    static StormLots told(String text) {
        StormLots x = new StormLots();
        feed(x, text);
        x.ship();
        return x;
    }
}
