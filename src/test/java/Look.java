/**
 * All that can be seen of an object, as one text, to tell whether two are alike. An object is used up by it: what can
 * only be seen by changing it (the tape, sizes of rows, what can be undone, images) is looked at last.
 */
final class Look {
    private final StormLots x;
    private final StringBuilder seen = new StringBuilder();

    private Look(StormLots x) {
        this.x = x;
    }

    static String at(StormLots x) {
        Look look = new Look(x);
        look.counts();
        look.people();
        look.foretold();
        look.trace();
        look.acts();
        look.images();
        look.tape();
        look.rows();
        return look.seen.toString();
    }

    /** What can be seen of the ship alone. */
    static String atShip(StormLots x) {
        Look look = new Look(x);
        look.people();
        look.foretold();
        return look.seen.toString();
    }

    private void tell(String what, long answer) {
        seen.append(what).append(' ').append(answer).append('\n');
    }

    private void counts() {
        for (int what = 0; what < 6; what++) {
            tell("count " + what, x.count(what));
        }
        tell("fault", x.fault());
    }

    private void people() {
        for (int what = 0; what < 5; what++) {
            tell("sea " + what, x.sea(what));
        }
        int people = x.count(1);
        for (int p = 0; p < people; p++) {
            for (int what = 0; what < 4; what++) {
                tell("person " + p + " " + what, x.person(p, what));
            }
            tell("kind " + p, x.kind(p));
            tell("likelihood " + p, x.likelihood(p));
            tell("named " + p, x.named(p, 0));
        }
    }

    private void foretold() {
        tell("likeliest", x.likeliest());
        tell("tells", x.tells());
        for (int what = 0; what < 3; what++) {
            tell("saved " + what, x.saved(2, what));
            tell("storm " + what, x.storm(60, 7, what));
        }
    }

    private void trace() {
        for (int i = 0; i < 7; i++) {
            tell("trace " + i, x.trace(i));
        }
    }

    private void acts() {
        for (int i = x.count(4); i > 0; i--) {
            tell("undo", x.undo());
            tell("hours", x.sea(0));
            tell("sinks", x.sea(1));
            tell("draw", x.count(3));
            tell("likelihood", x.likelihood(0));
        }
        tell("undo", x.undo());
    }

    private void images() {
        for (int k = 0; k < 2; k++) {
            tell("restore " + k, x.restore(k));
            tell("people", x.count(1));
            tell("hours", x.sea(0));
            tell("cargo", x.sea(4));
            tell("draw", x.count(3));
            tell("likelihood", x.likelihood(0));
        }
    }

    /** What stands on the tape is told by how it is read, with an end that fits what these tests leave there. */
    private void tape() {
        x.feed(';');
        tell("ship", x.ship());
        tell("fault", x.fault());
        tell("likelihood", x.likelihood(0));
        Check.feed(x, "s0,1,0;a1;a1;a1;a1;a1;a1;");
        tell("ship", x.ship());
    }

    private void rows() {
        for (int r = 0; r < 8; r++) {
            tell("row and the first " + r, x.copy(r, 0, 0, 0, 0));
            for (int i = 0; i < 6; i++) {
                tell("been " + r + " " + i, x.been(r, i, 1, 0));
            }
            tell("drop " + r, x.drop(r));
        }
    }
}
