/** The edges that promises 16 to 21 name: DEEDS, what is undone, what is kept. */
final class DeedEdges {
    private static final Check c = Edges.c;
    private static final int STATE = Edges.STATE, FULL = Edges.FULL, BAD = Edges.BAD, NOTHING = Edges.NOTHING;

    private DeedEdges() {
    }

    static void run() {
        step();
        stepRefused();
        hour();
        hourRefused();
        turn();
        turnRefused();
        undo();
        undoEach();
        undoRefused();
        keep();
        on();
        onBehindOthers();
        onRefused();
    }

    private static void step() {
        Edges.says(16, "One STEPS to a ROOM: DAYS, and 1000 more.");
        HouseOfHours x = Check.built("pA1pL1");
        c.due("back to 11", x.step(0, 11), 999);
        Edges.told("DAYS", x, x.person(0, 3), -1);
        c.due("on to 0", x.step(1, 0), 1001);
        c.due("DAYS stay", x.step(1, 1), 1001);
        HouseOfHours round = Check.built("pB9");
        for (int day = 1; day <= 3; day++) {
            for (int room = 2; room <= 11; room++) {
                c.due("to " + room, round.step(0, room), 999 + day);
            }
            c.due("to 0", round.step(0, 0), 1000 + day);
            c.due("to 1", round.step(0, 1), 1000 + day);
        }
        Edges.told("36 STEPS", round, round.person(0, 5), 36);
        c.due("36 DEEDS", round.count(4), 36);
    }

    private static void stepRefused() {
        Edges.says(16, "BAD; STATE: it can't; FULL: 40 DEEDS. (FULL last.)");
        for (int p : Edges.outside(0, 5)) {
            Edges.bad(Edges::furnished, "step(" + p + ", 0)", x -> x.step(p, 0));
        }
        for (int room : Edges.outside(0, 11)) {
            Edges.bad(Edges::furnished, "step(0, " + room + ")", x -> x.step(0, room));
        }
        Edges.bad(Edges::bare, "no PERSONS: step(0, 0)", x -> x.step(0, 0));
        Edges.bad(Edges.house("pA1"), "step(1, 0) of one", x -> x.step(1, 0));
        Edges.stateIs(Edges.house("pA1"), "its own ROOM", x -> x.step(0, 0));
        Edges.stateIs(Edges.house("pA1"), "two ROOMS on", x -> x.step(0, 2));
        Edges.stateIs(Edges.house("pA1xA"), "a SHUT DOOR", x -> x.step(0, 1));
        Edges.stateIs(Edges.house("pA1tAF"), "no SERVANT: STAIRS", x -> x.step(0, 5));
        Edges.stateIs(Edges.house("kA1tAF"), "a CAT: STAIRS", x -> x.step(0, 5));
        Edges.stateIs(Edges.house("nA1tAF"), "SLEEPLESS: STAIRS", x -> x.step(0, 5));
        Edges.stateIs(Edges.house("sA1tBF"), "STAIRS of another ROOM", x -> x.step(0, 5));
        Edges.stateIs(Edges.house("cL1"), "a CHILD: DOOR 11", x -> x.step(0, 0));
        Edges.stateIs(Edges.house("cF1"), "a CHILD: DOOR 5", x -> x.step(0, 6));
        Edges.stateIs(Edges.house("nG1"), "SLEEPLESS: DOOR 5", x -> x.step(0, 5));
        Edges.isFull(Edges::full, "40 DEEDS", x -> x.step(0, 3));
        Edges.stateIs(Edges::full, "STATE ahead of FULL", x -> x.step(0, 5));
        Edges.stateIs(Edges::full, "STATE ahead of FULL: its own ROOM", x -> x.step(0, 2));
        Edges.bad(Edges::full, "BAD ahead of FULL", x -> x.step(0, 12));
        HouseOfHours x = Edges.full();
        x.undo(39);
        c.due("the 40th", x.step(0, 3), 1000);
        c.due("no 41st", x.step(0, 4), FULL);
    }

    private static void hour() {
        Edges.says(17, "An HOUR: how many PERSONS came to another ROOM.");
        c.due("none", Check.built("pA0pB0pC0pD0pE0pF0").hour(), 0);
        c.due("one", Check.built("pA0pB0pC9pD0pE0pF0").hour(), 1);
        c.due("all six", Check.built("pA1pB2pC3pD4pE5pF9").hour(), 6);
        HouseOfHours x = Check.built("pL1cL9nD9");
        c.due("round", x.hour(), 3);
        Edges.told("11 and 1", x, x.person(0, 1), 0);
        Edges.told("11 and 9", x, x.person(1, 1), 8);
        Edges.told("3 and 9 is just round", x, x.person(2, 1), 0);
        for (int p = 0; p < 3; p++) {
            Edges.told("a DAY", x, x.person(p, 3), 1);
        }
        HouseOfHours y = Check.built("pC9");
        y.hour();
        Edges.told("2 and 9 is just not", y, y.person(0, 1), 11);
        Edges.told("no DAY", y, y.person(0, 3), 0);
    }

    private static void hourRefused() {
        Edges.says(17, "STATE: no PERSONS; FULL. (FULL last.)");
        Edges.stateIs(Edges::bare, "no PERSONS", x -> x.hour());
        Edges.stateIs(Edges::fullBare, "STATE ahead of FULL", x -> x.hour());
        Edges.isFull(Edges::full, "40 DEEDS", x -> x.hour());
        HouseOfHours x = Check.built("pL9");
        for (int h = 1; h <= 40; h++) {
            c.due("HOUR " + h, x.hour(), 1);
            c.due("the HOUR", x.count(3), h);
        }
        c.due("no 41st", x.hour(), FULL);
        c.due("the HOUR", x.count(3), 40);
        Edges.told("DAYS", x, x.person(0, 3), (11 + 360) / 12);
    }

    private static void turn() {
        Edges.says(18, "A DOOR is SHUT (1) or OPENED (0): how many are SHUT then.");
        HouseOfHours x = Check.built("pA1");
        for (int i = 0; i < 12; i++) {
            c.due("turn(" + i + ", 1)", x.turn(i, 1), i + 1);
        }
        Edges.told("shut in", x, x.person(0, 4), 0);
        for (int i = 0; i < 12; i++) {
            c.due("turn(" + i + ", 0)", x.turn(i, 0), 11 - i);
            c.due("door(" + i + ")", x.door(i), 0);
        }
        HouseOfHours bare = new HouseOfHours();
        c.due("without PERSONS", bare.turn(11, 1), 1);
        c.due("a DEED", bare.count(4), 1);
    }

    private static void turnRefused() {
        Edges.says(18, "BAD; STATE: it is so; FULL. (FULL last.)");
        for (int i : Edges.outside(0, 11)) {
            Edges.bad(Edges::furnished, "turn(" + i + ", 1)", x -> x.turn(i, 1));
            Edges.bad(Edges::furnished, "turn(" + i + ", 0)", x -> x.turn(i, 0));
        }
        for (int is : Edges.outside(0, 1)) {
            Edges.bad(Edges::furnished, "turn(0, " + is + ")", x -> x.turn(0, is));
            Edges.bad(Edges::furnished, "turn(1, " + is + ")", x -> x.turn(1, is));
        }
        Edges.stateIs(Edges::furnished, "it is open", x -> x.turn(0, 0));
        Edges.stateIs(Edges::furnished, "it is SHUT", x -> x.turn(1, 1));
        Edges.stateIs(Edges::furnished, "it was SHUT by a DEED", x -> x.turn(6, 1));
        Edges.isFull(Edges::full, "40 DEEDS", x -> x.turn(0, 1));
        Edges.isFull(Edges::fullBare, "40 DEEDS without PERSONS", x -> x.turn(0, 1));
        Edges.stateIs(Edges::full, "STATE ahead of FULL", x -> x.turn(0, 0));
        Edges.bad(Edges::full, "BAD ahead of FULL", x -> x.turn(12, 1));
        Edges.bad(Edges::full, "BAD ahead of FULL", x -> x.turn(0, 2));
    }

    /** Of each sort, each where it matters to DAYS or to who can STEP. */
    private static void someDeed(HouseOfHours x, int i) {
        switch (i % 5) {
            case 0:
                x.hour();
                break;
            case 1:
                x.turn(i % 12, 1 - x.door(i % 12));
                break;
            default:
                x.lots(1, i + 1);
                break;
        }
    }

    private static void undo() {
        Edges.says(19, "DEEDS from number n on are undone: how many.");
        String signs = "pL9sA1cL5kA4lF7nL2 xC tALtFG";
        for (int n = 0; n <= 40; n++) {
            HouseOfHours x = Check.built(signs), fewer = Check.built(signs);
            for (int i = 0; i < 40; i++) {
                someDeed(x, i);
                if (i < n) {
                    someDeed(fewer, i);
                }
            }
            c.due("undo(" + n + ") of 40", x.undo(n), 40 - n);
            Edges.same("undo(" + n + ") of 40", x, fewer);
        }
    }

    private static void undoEach() {
        HouseOfHours none = Check.built("pA1");
        c.due("none", none.undo(0), 0);
        HouseOfHours x = Check.built("sA1tLB"), twin = Check.built("sA1tLB");
        x.step(0, 11);
        c.due("a STEP below 0 DAYS", x.undo(0), 1);
        Edges.same("a STEP below 0 DAYS", x, twin);
        x.step(0, 11);
        x.step(0, 1);
        x.step(0, 0);
        c.due("DAYS below 0 stay", x.undo(2), 1);
        Edges.told("DAYS", x, x.person(0, 3), -1);
        Edges.told("ROOM", x, x.person(0, 1), 1);
        c.due("and go", x.undo(0), 2);
        c.due("and go, digest()", x.digest(), twin.digest());
        x.hour();
        c.due("the number of DEEDS itself: none", x.undo(1), 0);
        c.due("then all", x.undo(0), 1);
        // What was undone is no DEED any more: others come in its place.
        x.turn(4, 1);
        x.undo(0);
        x.turn(5, 1);
        c.due("the other one", x.undo(0), 1);
        c.due("the other one, door(5)", x.door(5), 0);
        c.due("the other one, digest()", x.digest(), twin.digest());
    }

    private static void undoRefused() {
        Edges.says(19, "BAD.");
        for (int n : new int[] {-1, 4, Edges.MIN, Edges.MAX}) {
            Edges.bad(Edges::furnished, "undo(" + n + ") of 3", x -> x.undo(n));
        }
        for (int n : new int[] {-1, 41, Edges.MIN, Edges.MAX}) {
            Edges.bad(Edges::full, "undo(" + n + ") of 40", x -> x.undo(n));
        }
        for (int n : new int[] {-1, 1, Edges.MIN, Edges.MAX}) {
            Edges.bad(Edges::bare, "undo(" + n + ") of none", x -> x.undo(n));
        }
    }

    private static void keep() {
        Edges.says(20, "is kept in a place (0 .. 2): how many DEEDS.");
        for (int k = 0; k <= 2; k++) {
            HouseOfHours x = Check.built("pA1");
            c.due("keep(" + k + ") without DEEDS", x.keep(k), 0);
            c.due("count(8)", x.count(8), 1);
            x.hour();
            c.due("keep(" + k + ") again, with one", x.keep(k), 1);
            c.due("count(8)", x.count(8), 1);
            c.due("on(" + k + ")", x.on(k), 1);
        }
        HouseOfHours full = Edges.full();
        for (int k = 0; k <= 2; k++) {
            c.due("with 40", full.keep(k), 40);
        }
        c.due("all places", full.count(8), 3);
        Edges.says(20, "(PERSONS, DOORS, PACES, the HOUR, DEEDS)");
        HouseOfHours x = Check.built("pA1cL2"), kept = Check.built("pA1cL2");
        x.pace(0, 8);
        x.keep(1);
        kept.pace(0, 8);
        kept.keep(1);
        x.pace(0, 3);
        x.turn(7, 1);
        x.hour();
        x.step(0, 4);
        c.due("on(1)", x.on(1), 0);
        Edges.same("all of these", x, kept);
        Edges.says(20, "BAD; STATE: no PERSONS.");
        for (int k : Edges.outside(0, 2)) {
            Edges.bad(Edges::furnished, "keep(" + k + ")", y -> y.keep(k));
            Edges.bad(Edges::bare, "BAD ahead of STATE: keep(" + k + ")", y -> y.keep(k));
        }
        for (int k = 0; k <= 2; k++) {
            int place = k;
            Edges.stateIs(Edges::bare, "keep(" + k + ")", y -> y.keep(place));
            Edges.stateIs(Edges::fullBare, "keep(" + k + ") with DEEDS", y -> y.keep(place));
        }
    }

    /** Three places, each with as many DEEDS as none other. */
    private static final int[] KEPT_DEEDS = {0, 20, 40};
    private static final String KEPT_SIGNS = "pL9sA1cL5kA4lF7nL2 xC tALtFG";

    private static HouseOfHours keptThrice() {
        HouseOfHours x = Check.built(KEPT_SIGNS);
        for (int i = 0; i <= 40; i++) {
            for (int k = 0; k < 3; k++) {
                if (KEPT_DEEDS[k] == i) {
                    c.due("keep(" + k + ")", x.keep(k), i);
                }
            }
            if (i < 40) {
                someDeed(x, i);
            }
        }
        return x;
    }

    private static void on() {
        Edges.says(21, "The HOUSE is as it was kept: how many DEEDS.");
        for (int first = 0; first < 3; first++) {
            for (int second = 0; second < 3; second++) {
                HouseOfHours x = keptThrice();
                onIs(x, first);
                onIs(x, second);
                c.due("all stay kept", x.count(8), 3);
            }
        }
    }

    private static void onIs(HouseOfHours x, int k) {
        int deeds = KEPT_DEEDS[k];
        HouseOfHours fresh = Check.built(KEPT_SIGNS);
        for (int i = 0; i < deeds; i++) {
            someDeed(fresh, i);
        }
        c.due("on(" + k + ")", x.on(k), deeds);
        asIn("on(" + k + ")", x, fresh);
        c.due("its DEEDS can be undone", x.undo(deeds / 2), deeds - deeds / 2);
        fresh.undo(deeds / 2);
        asIn("on(" + k + "), undone", x, fresh);
    }

    /** What is kept has its own DEEDS, not those that were done behind it, to the same number or another. */
    private static void onBehindOthers() {
        String signs = "sA1kL2pD3 xC tALtFG";
        HouseOfHours x = Check.built(signs);
        x.step(0, 11);
        x.hour();
        x.turn(9, 1);
        x.step(1, 0);
        x.keep(2);
        HouseOfHours kept = Check.built(signs);
        kept.step(0, 11);
        kept.hour();
        kept.turn(9, 1);
        kept.step(1, 0);
        x.undo(0);
        x.step(2, 4);
        x.turn(4, 1);
        x.step(2, 3);
        x.hour();
        x.hour();
        c.due("on(2)", x.on(2), 4);
        for (int n = 4; n >= 0; n--) {
            c.due("undo(" + n + ")", x.undo(n), kept.undo(n));
            asIn("undo(" + n + ")", x, kept);
        }
    }

    /** All that is told of a HOUSE, but what is kept, is the same. */
    private static void asIn(String shown, HouseOfHours x, HouseOfHours y) {
        for (int what = 0; what <= 5; what++) {
            c.due(shown + ", count(" + what + ")", x.count(what), y.count(what));
        }
        for (int i = 0; i < 12; i++) {
            c.due(shown + ", door(" + i + ")", x.door(i), y.door(i));
        }
        for (int p = 0; p < y.count(0); p++) {
            for (int what = 1; what <= 5; what += 2) {
                c.due(shown + ", person(" + p + ", " + what + ")", Edges.asked(x, p, what), Edges.asked(y, p, what));
            }
        }
    }

    private static void onRefused() {
        Edges.says(21, "BAD; NOTHING.");
        for (int k : Edges.outside(0, 2)) {
            Edges.bad(Edges::furnished, "on(" + k + ")", x -> x.on(k));
        }
        Edges.found(Edges::furnished, "on(1)", x -> x.on(1), NOTHING);
        for (int k = 0; k <= 2; k++) {
            int place = k;
            Edges.found(Edges::bare, "on(" + k + ")", x -> x.on(place), NOTHING);
            Edges.found(Edges::fullBare, "on(" + k + ")", x -> x.on(place), NOTHING);
        }
        HouseOfHours x = Edges.full();
        c.due("on() is no DEED, and may come at 40", x.on(1), 0);
        c.due("then there is room for more", x.hour(), 1);
        c.due("a refused keep() keeps nothing", x.keep(3), BAD);
        c.due("STATE keeps nothing", Edges.fullBare().count(8), 0);
        c.due("a HOUSE with a FAULT leaves what is kept", withFault(x), STATE);
        c.due("so it can be gone on from", x.on(1), 0);
    }

    private static int withFault(HouseOfHours x) {
        Check.write(x, 2, "pM0");
        return x.house(2);
    }
}
