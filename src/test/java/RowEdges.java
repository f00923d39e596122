import java.util.Arrays;

/** The edges that promises 1 to 9 name: a new object, ROWS, TEXTS. */
final class RowEdges {
    private static final Check c = Edges.c;
    private static final int FINDING = Edges.FINDING, MIN = Edges.MIN, MAX = Edges.MAX;
    private static final int NOTHING = Edges.NOTHING, BEYOND = Edges.BEYOND, NOUGHT = Edges.NOUGHT, SIZE = Edges.SIZE;

    private RowEdges() {
    }

    static void run() {
        newObject();
        row();
        lay();
        at();
        tear();
        copy();
        copyRefused();
        mean();
        text();
        put();
    }

    private static void newObject() {
        Edges.says(1, "No ROWS, TEXTS, PERSONS; all DOORS open.");
        for (int i = 0; i < 6; i++) {
            int r = i;
            Edges.found(Edges::bare, "tear(" + r + ")", x -> x.tear(r), NOTHING);
        }
        for (int i = 0; i < 4; i++) {
            int t = i;
            Edges.found(Edges::bare, "fault(" + t + ")", x -> x.fault(t), NOTHING);
        }
        for (int i = 0; i < 12; i++) {
            int d = i;
            c.due("door(" + d + ")", new HouseOfHours().door(d), 0);
            Edges.stateIs(Edges::bare, "turn(" + d + ", 0)", x -> x.turn(d, 0));
        }
        for (int i = 0; i < 6; i++) {
            int what = i;
            Edges.bad(Edges::bare, "person(0, " + what + ")", x -> x.person(0, what));
        }
        HouseOfHours x = new HouseOfHours();
        for (int what = 0; what <= 8; what++) {
            c.due("count(" + what + ")", x.count(what), 0);
        }
        // Objects have nothing in common.
        Edges.furnished();
        Edges.same("a second new object", new HouseOfHours(), new HouseOfHours());
        c.due("its findings(1)", new HouseOfHours().findings(1), 0);
    }

    private static void row() {
        Edges.says(2, "A ROW is there with n ints 0: n.");
        for (int r = 0; r < 6; r++) {
            for (int n : new int[] {0, 1, 39, 40}) {
                HouseOfHours x = new HouseOfHours();
                c.due("row(" + r + ", " + n + ")", x.row(r, n), n);
                Edges.holds("row(" + r + ", " + n + ")", x, r, new int[n]);
                c.due("count(6)", x.count(6), 1);
            }
        }
        HouseOfHours x = new HouseOfHours();
        x.row(0, 40);
        for (int i = 0; i < 40; i++) {
            x.lay(0, i, i + 1);
        }
        c.due("shorter", x.row(0, 3), 3);
        Edges.holds("ints 0 again", x, 0, 0, 0, 0);
        c.due("longer", x.row(0, 40), 40);
        Edges.holds("what was there ahead does not come back", x, 0, new int[40]);
        Edges.says(2, "BAD: also n above 40");
        for (int r : Edges.outside(0, 5)) {
            Edges.bad(Edges::furnished, "row(" + r + ", 1)", y -> y.row(r, 1));
        }
        for (int n : new int[] {41, 100, MAX}) {
            Edges.bad(Edges::furnished, "row(0, " + n + ")", y -> y.row(0, n));
            Edges.bad(Edges::furnished, "row(5, " + n + "), a missing one", y -> y.row(5, n));
        }
        Edges.bad(Edges::furnished, "row(6, 41)", y -> y.row(6, 41));
        Edges.says(2, "SIZE: below 0.");
        for (int n : new int[] {-1, -40, MIN}) {
            Edges.found(Edges::furnished, "row(0, " + n + ")", y -> y.row(0, n), SIZE);
            Edges.found(Edges::furnished, "row(5, " + n + "), a missing one", y -> y.row(5, n), SIZE);
        }
    }

    private static void lay() {
        Edges.says(3, "Place i of a ROW is v: what it was, told by asked(): 1.");
        HouseOfHours x = new HouseOfHours();
        x.row(5, 40);
        int was = 0;
        for (int v : new int[] {MIN, MAX, -1, 0, 1}) {
            Edges.told("the last place: " + v, x, x.lay(5, 39, v), was);
            was = v;
        }
        Edges.told("the first place", x, x.lay(5, 0, 6), 0);
        Edges.told("it is v", x, x.at(5, 0), 6);
        Edges.told("the last one too", x, x.at(5, 39), 1);
        Edges.told("the next one is not", x, x.at(5, 1), 0);
        Edges.says(3, "BAD; NOTHING; BEYOND.");
        for (int r : Edges.outside(0, 5)) {
            Edges.bad(Edges::furnished, "lay(" + r + ", 0, 1)", y -> y.lay(r, 0, 1));
        }
        Edges.found(Edges::furnished, "lay(5, 0, 1)", y -> y.lay(5, 0, 1), NOTHING);
        Edges.found(Edges::furnished, "NOTHING ahead of BEYOND", y -> y.lay(5, -1, 1), NOTHING);
        for (int i : Edges.outside(0, 2)) {
            Edges.found(Edges::furnished, "lay(0, " + i + ", 1)", y -> y.lay(0, i, 1), BEYOND);
        }
        Edges.found(Edges::furnished, "a ROW of none", y -> y.lay(1, 0, 1), BEYOND);
        Edges.found(Edges::furnished, "a ROW of 40", y -> y.lay(2, 40, 1), BEYOND);
    }

    private static void at() {
        Edges.says(4, "Place i of a ROW, told by asked(): 1.");
        HouseOfHours x = new HouseOfHours();
        int[] all = new int[40];
        for (int i = 0; i < 40; i++) {
            all[i] = i * i * 1000003;
        }
        Check.fill(x, 3, all);
        Edges.holds("all 40", x, 3, all);
        Check.fill(x, 4, MIN, MAX);
        Edges.holds("the furthest", x, 4, MIN, MAX);
        Edges.says(4, "BAD; NOTHING; BEYOND.");
        for (int r : Edges.outside(0, 5)) {
            Edges.bad(Edges::furnished, "at(" + r + ", 0)", y -> y.at(r, 0));
        }
        Edges.found(Edges::furnished, "at(5, 0)", y -> y.at(5, 0), NOTHING);
        Edges.found(Edges::furnished, "NOTHING ahead of BEYOND", y -> y.at(5, -1), NOTHING);
        for (int i : Edges.outside(0, 2)) {
            Edges.found(Edges::furnished, "at(0, " + i + ")", y -> y.at(0, i), BEYOND);
        }
        Edges.found(Edges::furnished, "a ROW of none", y -> y.at(1, 0), BEYOND);
        Edges.found(Edges::furnished, "a ROW of 40", y -> y.at(2, 40), BEYOND);
    }

    private static void tear() {
        Edges.says(5, "A ROW is missing: 1.");
        for (int r = 0; r < 6; r++) {
            for (int n : new int[] {0, 1, 40}) {
                HouseOfHours x = new HouseOfHours();
                x.row(r, n);
                c.due("tear(" + r + ") of " + n, x.tear(r), 1);
                c.due("then there is none", x.count(6), 0);
                Edges.same("tear(" + r + ")", x, new HouseOfHours());
            }
        }
        HouseOfHours x = new HouseOfHours();
        Check.fill(x, 2, 7, 8);
        x.tear(2);
        c.due("made again", x.row(2, 2), 2);
        Edges.holds("anew", x, 2, 0, 0);
        Edges.says(5, "BAD; NOTHING.");
        for (int r : Edges.outside(0, 5)) {
            Edges.bad(Edges::furnished, "tear(" + r + ")", y -> y.tear(r));
        }
        for (int r = 3; r < 6; r++) {
            int which = r;
            Edges.found(Edges::furnished, "tear(" + r + ")", y -> y.tear(which), NOTHING);
        }
        x.tear(2);
        c.due("torn already", x.tear(2), FINDING);
    }

    private static int[] numbers(int from, int n) {
        int[] all = new int[n];
        for (int i = 0; i < n; i++) {
            all[i] = from + i;
        }
        return all;
    }

    private static void copy() {
        Edges.says(6, "n places of a ROW, from one on, come to those of another one (perhaps itself) from one "
            + "on, as if taken ahead: 1.");
        HouseOfHours x = new HouseOfHours();
        Check.fill(x, 0, numbers(100, 40));
        x.row(5, 40);
        c.due("all 40", x.copy(0, 0, 5, 0, 40), 1);
        Edges.holds("all 40", x, 5, numbers(100, 40));
        c.due("the last place to the first", x.copy(0, 39, 5, 0, 1), 1);
        Edges.told("the last place to the first", x, x.at(5, 0), 139);
        c.due("the first place to the last", x.copy(0, 0, 5, 39, 1), 1);
        Edges.told("the first place to the last", x, x.at(5, 39), 100);
        Edges.told("not what it is taken from", x, x.at(0, 39), 139);
        // To itself, each way about, by each distance: what is taken is what was there ahead.
        for (int i = 0; i <= 6; i++) {
            for (int j = 0; j <= 6; j++) {
                int n = 6 - Math.max(i, j);
                int[] want = numbers(1, 6), were = numbers(1, 6);
                System.arraycopy(were, i, want, j, n);
                HouseOfHours y = new HouseOfHours();
                Check.fill(y, 2, were);
                c.due("copy(2, " + i + ", 2, " + j + ", " + n + ")", y.copy(2, i, 2, j, n), 1);
                Edges.holds("copy(2, " + i + ", 2, " + j + ", " + n + ")", y, 2, want);
            }
        }
        HouseOfHours y = new HouseOfHours(), twin = new HouseOfHours();
        for (HouseOfHours it : Arrays.asList(y, twin)) {
            Check.fill(it, 0, 1, 2, 3);
            it.row(1, 0);
        }
        c.due("none from a ROW of none", y.copy(1, 0, 0, 3, 0), 1);
        c.due("none to a ROW of none", y.copy(0, 3, 1, 0, 0), 1);
        Edges.same("none", y, twin);
    }

    private static void copyRefused() {
        Edges.Maker it = Edges::furnished;
        Edges.says(6, "BAD; SIZE: n below 0");
        for (int r : Edges.outside(0, 5)) {
            Edges.bad(it, "copy(" + r + ", 0, 0, 0, 1)", x -> x.copy(r, 0, 0, 0, 1));
            Edges.bad(it, "copy(0, 0, " + r + ", 0, 1)", x -> x.copy(0, 0, r, 0, 1));
            Edges.bad(it, "BAD ahead of SIZE", x -> x.copy(0, 0, r, 0, -1));
        }
        for (int n : new int[] {-1, -41, MIN}) {
            Edges.found(it, "copy(0, 0, 2, 0, " + n + ")", x -> x.copy(0, 0, 2, 0, n), SIZE);
            Edges.found(it, "SIZE ahead of NOTHING", x -> x.copy(5, 0, 4, 0, n), SIZE);
            Edges.found(it, "SIZE ahead of BEYOND", x -> x.copy(0, 9, 2, 99, n), SIZE);
        }
        Edges.says(6, "NOTHING: either");
        Edges.found(it, "the first", x -> x.copy(5, 0, 0, 0, 1), NOTHING);
        Edges.found(it, "the second", x -> x.copy(0, 0, 5, 0, 1), NOTHING);
        Edges.found(it, "both", x -> x.copy(4, 0, 5, 0, 1), NOTHING);
        Edges.found(it, "itself", x -> x.copy(5, 0, 5, 0, 0), NOTHING);
        Edges.found(it, "NOTHING ahead of BEYOND", x -> x.copy(0, 99, 5, -1, 1), NOTHING);
        Edges.says(6, "BEYOND: not so many there.");
        Edges.found(it, "one more than there are", x -> x.copy(0, 0, 2, 0, 4), BEYOND);
        Edges.found(it, "one more from the second on", x -> x.copy(0, 1, 2, 0, 3), BEYOND);
        Edges.found(it, "one more at the other one's end", x -> x.copy(0, 0, 2, 38, 3), BEYOND);
        Edges.found(it, "one from a ROW of none", x -> x.copy(1, 0, 0, 0, 1), BEYOND);
        Edges.found(it, "one to a ROW of none", x -> x.copy(0, 0, 1, 0, 1), BEYOND);
        Edges.found(it, "one more within itself", x -> x.copy(0, 0, 0, 1, 3), BEYOND);
        for (int i : new int[] {-1, MIN, 41, MAX}) {
            Edges.found(it, "from " + i, x -> x.copy(2, i, 0, 0, 1), BEYOND);
            Edges.found(it, "to " + i, x -> x.copy(0, 0, 2, i, 1), BEYOND);
            Edges.found(it, "none from " + i, x -> x.copy(2, i, 0, 0, 0), BEYOND);
            Edges.found(it, "none to " + i, x -> x.copy(0, 0, 2, i, 0), BEYOND);
        }
        Edges.found(it, "as many as an int holds", x -> x.copy(2, 0, 2, 0, MAX), BEYOND);
        Edges.found(it, "so many that the end wraps around", x -> x.copy(2, 1, 2, 0, MAX), BEYOND);
        Edges.found(it, "so many that the other end wraps around", x -> x.copy(2, 0, 2, 1, MAX), BEYOND);
        Edges.found(it, "a place so far that the end wraps around", x -> x.copy(2, MAX, 2, MAX, 1), BEYOND);
    }

    private static void meanIs(int want, int... places) {
        HouseOfHours x = new HouseOfHours();
        Check.fill(x, 0, places);
        Edges.told("mean of " + Arrays.toString(places), x, x.mean(0), want);
    }

    private static void mean() {
        Edges.says(7, "The mean of a ROW's ints, cut, told by asked(): 1.");
        meanIs(0, 0);
        meanIs(-9, -9);
        meanIs(0, 1, 0);
        meanIs(0, -1, 0);
        meanIs(1, 1, 2);
        meanIs(-1, -1, -2);
        meanIs(2, 3, 3, 2);
        meanIs(-2, -3, -3, -2);
        meanIs(0, MIN, MAX);
        meanIs(MAX, MAX);
        meanIs(MIN, MIN);
        meanIs(MAX - 1, MAX, MAX - 1);
        meanIs(MIN + 1, MIN, MIN + 1, MIN + 1, MIN + 1);
        int[] most = new int[40];
        Arrays.fill(most, MAX);
        meanIs(MAX, most);
        Arrays.fill(most, MIN);
        meanIs(MIN, most);
        Arrays.fill(most, 0);
        most[39] = 79;
        meanIs(1, most);
        most[39] = -79;
        meanIs(-1, most);
        Edges.says(7, "BAD; NOTHING; NOUGHT.");
        for (int r : Edges.outside(0, 5)) {
            Edges.bad(Edges::furnished, "mean(" + r + ")", x -> x.mean(r));
        }
        Edges.found(Edges::furnished, "mean(5)", x -> x.mean(5), NOTHING);
        Edges.found(Edges::furnished, "mean(1)", x -> x.mean(1), NOUGHT);
        // What was laid ahead of it is not shared.
        HouseOfHours x = new HouseOfHours();
        Check.fill(x, 0, 6, 8);
        x.row(0, 0);
        c.due("made anew with none", x.mean(0), FINDING);
        c.due("made anew with none, finding()", x.finding(), NOUGHT);
        x.row(0, 1);
        Edges.told("made anew with one", x, x.mean(0), 0);
    }

    private static void text() {
        Edges.says(8, "A TEXT is there with n blanks: n.");
        for (int t = 0; t < 4; t++) {
            for (int n : new int[] {0, 1, 59, 60}) {
                HouseOfHours x = new HouseOfHours();
                c.due("text(" + t + ", " + n + ")", x.text(t, n), n);
                for (int i = 0; i < n; i++) {
                    c.due("a blank at " + i, x.put(t, i, 65), 1032);
                }
                c.due("no byte " + n, x.put(t, n, 65), FINDING);
                c.due("count(7)", x.count(7), 1);
                c.due("shorter", x.text(t, n / 2), n / 2);
                c.due("longer", x.text(t, n), n);
                for (int i = 0; i < n; i++) {
                    c.due("a blank at " + i + " again", x.put(t, i, 66), 1032);
                }
            }
        }
        Edges.says(8, "BAD: also n above 60");
        for (int t : Edges.outside(0, 3)) {
            Edges.bad(Edges::furnished, "text(" + t + ", 1)", x -> x.text(t, 1));
        }
        for (int n : new int[] {61, 100, MAX}) {
            Edges.bad(Edges::furnished, "text(0, " + n + ")", x -> x.text(0, n));
            Edges.bad(Edges::furnished, "text(1, " + n + "), a missing one", x -> x.text(1, n));
        }
        Edges.says(8, "SIZE: below 0.");
        for (int n : new int[] {-1, -60, MIN}) {
            Edges.found(Edges::furnished, "text(0, " + n + ")", x -> x.text(0, n), SIZE);
            Edges.found(Edges::furnished, "text(1, " + n + "), a missing one", x -> x.text(1, n), SIZE);
        }
    }

    private static void put() {
        Edges.says(9, "Byte i of a TEXT is v, cut to a byte: what it was, and 1000 more.");
        HouseOfHours x = new HouseOfHours();
        x.text(3, 60);
        int was = 32;
        for (int v = -128; v < 128; v++) {
            c.due("put " + v, x.put(3, 59, v), 1000 + was);
            was = v;
        }
        int[] further = {128, 255, 256, 257, -129, -256, -257, 511, MIN, MAX, MIN + 200, MAX - 200};
        int[] cut = {-128, -1, 0, 1, 127, 0, -1, -1, 0, -1, -56, 55};
        for (int i = 0; i < further.length; i++) {
            c.due("put " + further[i], x.put(3, 59, further[i]), 1000 + was);
            was = cut[i];
        }
        c.due("the last", x.put(3, 59, 0), 1000 + was);
        c.due("the next one stays", x.put(3, 58, 0), 1032);
        c.due("asked() is not told", x.asked(), 0);
        Edges.says(9, "BAD; NOTHING; BEYOND.");
        for (int t : Edges.outside(0, 3)) {
            Edges.bad(Edges::furnished, "put(" + t + ", 0, 1)", y -> y.put(t, 0, 1));
        }
        Edges.found(Edges::furnished, "put(1, 0, 1)", y -> y.put(1, 0, 1), NOTHING);
        Edges.found(Edges::furnished, "NOTHING ahead of BEYOND", y -> y.put(1, -1, 1), NOTHING);
        for (int i : Edges.outside(0, 1)) {
            Edges.found(Edges::furnished, "put(0, " + i + ", 1)", y -> y.put(0, i, 1), BEYOND);
        }
    }
}
