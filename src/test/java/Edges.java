import java.util.Arrays;

/** What the tests of edges share: the document's words, and what a refused call may change. */
final class Edges {
    static final int BAD = -1, FULL = -2, FINDING = -3, STATE = -4, NONE = -9;
    static final int NOTHING = 1, BEYOND = 2, UNLIKE = 3, NOUGHT = 4, SIZE = 5;
    static final int MIN = Integer.MIN_VALUE, MAX = Integer.MAX_VALUE;
    static final int ALL_ROOMS = 4095;
    static final String LETTERS = "psckln";
    static final String ALL_SHUT = "xAxBxCxDxExFxGxHxIxJxKxL";

    static final Check c = new Check();
    static final Doc doc = new Doc();

    private Edges() {
    }

    /** Makes the same object each time. */
    interface Maker {
        HouseOfHours make();
    }

    interface Call {
        long on(HouseOfHours x);
    }

    /** What is asked from here on is told by these words of a promise (0: of what is ahead of them). */
    static void says(int promise, String words) {
        c.in(promise + " \"" + words + "\"");
        c.due("these words stand in the document", doc.quote(promise, words) ? 1 : 0, 1);
    }

    /** The numbers next to a span, and the ones furthest from it. */
    static int[] outside(int low, int high) {
        return new int[] {low - 1, high + 1, MIN, MAX};
    }

    static char roomSign(int room) {
        return (char) ('A' + room);
    }

    static HouseOfHours bare() {
        return new HouseOfHours();
    }

    static Maker house(String signs) {
        return () -> Check.built(signs);
    }

    /** Six PERSONS, one of each KIND; ROWS, TEXTS, kept HOUSES, DEEDS of each sort; something told by all that tell. */
    static HouseOfHours furnished() {
        HouseOfHours x = Check.built("pA1sB2cC3kD4lL5nF6 xBxE tBHtLA");
        x.keep(0);
        x.step(0, 11);
        x.turn(6, 1);
        x.keep(2);
        x.hour();
        Check.fill(x, 0, 5, -6, 7);
        x.row(1, 0);
        x.row(2, 40);
        x.lay(2, 39, 1);
        x.text(0, 2);
        x.put(0, 0, 200);
        x.mean(1);
        x.odds(0, 1, 1);
        x.at(0, 2);
        return x;
    }

    /** Two PERSONS and 40 DEEDS; DOOR 0 is open. */
    static HouseOfHours full() {
        HouseOfHours x = Check.built("pC1sD0");
        x.keep(1);
        for (int i = 0; i < 40; i++) {
            x.turn(0, 1 - i % 2);
        }
        return x;
    }

    /** 40 DEEDS without PERSONS. */
    static HouseOfHours fullBare() {
        HouseOfHours x = new HouseOfHours();
        for (int i = 0; i < 40; i++) {
            x.turn(0, 1 - i % 2);
        }
        return x;
    }

    static void bad(Maker maker, String shown, Call call) {
        refused(maker, shown, call, BAD, 0);
    }

    static void found(Maker maker, String shown, Call call, int which) {
        refused(maker, shown, call, FINDING, which);
    }

    static void stateIs(Maker maker, String shown, Call call) {
        refused(maker, shown, call, STATE, 0);
    }

    static void isFull(Maker maker, String shown, Call call) {
        refused(maker, shown, call, FULL, 0);
    }

    /** The call is refused so, and but for finding(), findings() all is as in an object on which it was not made. */
    static void refused(Maker maker, String shown, Call call, int answer, int which) {
        HouseOfHours x = maker.make(), twin = maker.make();
        c.due(shown, call.on(x), answer);
        c.due(shown + ", finding()", x.finding(), which == 0 ? twin.finding() : which);
        for (int f = 1; f <= 5; f++) {
            c.due(shown + ", findings(" + f + ")", x.findings(f), twin.findings(f) + (f == which ? 1 : 0));
        }
        same(shown, x, twin);
    }

    /** The call answers NONE, and all is as in an object on which it was not made. */
    static void none(Maker maker, String shown, Call call) {
        refused(maker, shown, call, NONE, 0);
    }

    /** All that can be asked of two objects is the same, what is kept and what can be undone too. */
    static void same(String shown, HouseOfHours x, HouseOfHours y) {
        seem(shown, x, y);
        takenBack(shown, x, y);
        for (int k = 0; k < 3; k++) {
            c.due(shown + ", on(" + k + ")", x.on(k), y.on(k));
            seem(shown + ", on(" + k + ")", x, y);
            takenBack(shown + ", on(" + k + ")", x, y);
        }
    }

    private static void seem(String shown, HouseOfHours x, HouseOfHours y) {
        c.due(shown + ", digest()", x.digest(), y.digest());
        c.due(shown + ", asked()", x.asked(), y.asked());
        c.due(shown + ", upper()", x.upper(), y.upper());
        c.due(shown + ", lower()", x.lower(), y.lower());
        for (int i = 0; i < 12; i++) {
            c.due(shown + ", door(" + i + ")", x.door(i), y.door(i));
        }
    }

    private static void takenBack(String shown, HouseOfHours x, HouseOfHours y) {
        int deeds = y.count(4);
        for (int n : new int[] {deeds - 1, deeds / 2, 0}) {
            c.due(shown + ", undo(" + n + ")", x.undo(n), y.undo(n));
            c.due(shown + ", undo(" + n + "), digest()", x.digest(), y.digest());
        }
    }

    static void told(String shown, HouseOfHours x, long answer, int asked) {
        c.due(shown, answer, 1);
        c.due(shown + ", asked()", x.asked(), asked);
    }

    static void answers(String shown, HouseOfHours x, long answer, long want, int asked) {
        c.due(shown, answer, want);
        c.due(shown + ", asked()", x.asked(), asked);
    }

    static void chance(String shown, HouseOfHours x, long answer, long upper, long lower) {
        c.due(shown, answer, 1);
        c.due(shown + ", upper()", x.upper(), upper);
        c.due(shown + ", lower()", x.lower(), lower);
    }

    /** A ROW has just these ints. */
    static void holds(String shown, HouseOfHours x, int r, int... places) {
        for (int i = 0; i < places.length; i++) {
            told(shown + ", place " + i + " of " + Arrays.toString(places), x, x.at(r, i), places[i]);
        }
        c.due(shown + ", no place " + places.length, x.at(r, places.length), FINDING);
        c.due(shown + ", no place " + places.length + ", finding()", x.finding(), BEYOND);
    }

    static int asked(HouseOfHours x, int p, int what) {
        return x.person(p, what) == 1 ? x.asked() : MIN;
    }
}
