/** The edges that promises 29 to 36 name: HABITS and ages. */
final class HabitEdges {
    private static final Check c = Edges.c;
    private static final int NONE = Edges.NONE, NOTHING = Edges.NOTHING, SIZE = Edges.SIZE;

    private HabitEdges() {
    }

    static void run() {
        later();
        when();
        meet();
        crowd();
        change();
        changeNone();
        round();
        paces();
        pacesRefused();
        ages();
        agesOrder();
        agesRefused();
    }

    private static void later() {
        Edges.says(29, "In which ROOM one is behind n (0 .. 999) HOURS; DAYS then, and 1000 more, by asked(). BAD.");
        for (int room : new int[] {0, 5, 11}) {
            for (int pace = 0; pace <= 9; pace++) {
                HouseOfHours x = Check.built("p" + Edges.roomSign(room) + pace);
                for (int n : new int[] {0, 1, 2, 11, 12, 13, 998, 999}) {
                    int on = room + n * pace;
                    Edges.answers("later(0, " + n + ") by " + pace, x, x.later(0, n), on % 12, 1000 + on / 12);
                }
                c.due("nothing is done", x.count(3), 0);
            }
        }
        HouseOfHours most = Check.built("pL9");
        Edges.answers("the most DAYS", most, most.later(0, 999), 2, 1750);
        HouseOfHours below = Check.built("pA1");
        below.step(0, 11);
        Edges.answers("DAYS below 0", below, below.later(0, 0), 11, 999);
        Edges.answers("DAYS from below 0 on", below, below.later(0, 1), 0, 1000);
        HouseOfHours gone = Check.built("pL9");
        gone.hour();
        int on = 20 + 8991;
        Edges.answers("from DAYS that are there on", gone, gone.later(0, 999), on % 12, 1000 + on / 12);
        for (int n : Edges.outside(0, 999)) {
            Edges.bad(Edges::furnished, "later(0, " + n + ")", x -> x.later(0, n));
        }
        for (int p : Edges.outside(0, 5)) {
            Edges.bad(Edges::furnished, "later(" + p + ", 0)", x -> x.later(p, 0));
        }
        Edges.bad(Edges::bare, "no PERSONS", x -> x.later(0, 0));
        Edges.bad(Edges.house("pA1"), "later(1, 0) of one", x -> x.later(1, 0));
    }

    private static void when() {
        Edges.says(30, "Behind how many HOURS (0 .. 11) one first is in a ROOM by HABIT. NONE: never. BAD.");
        for (int from = 0; from < 12; from++) {
            for (int pace = 0; pace <= 9; pace++) {
                HouseOfHours x = Check.built("c" + Edges.roomSign(from) + pace);
                for (int room = 0; room < 12; room++) {
                    int want = NONE;
                    for (int h = 11; h >= 0; h--) {
                        want = (from + h * pace) % 12 == room ? h : want;
                    }
                    c.due(from + " by " + pace + ", when(0, " + room + ")", x.when(0, room), want);
                }
            }
        }
        c.due("at once", Check.built("pL9").when(0, 11), 0);
        c.due("behind 11", Check.built("pL1").when(0, 10), 11);
        Edges.none(Edges.house("pA0"), "never: it stays", x -> x.when(0, 11));
        Edges.none(Edges.house("pA6"), "never: by 6", x -> x.when(0, 3));
        for (int room : Edges.outside(0, 11)) {
            Edges.bad(Edges::furnished, "when(0, " + room + ")", x -> x.when(0, room));
        }
        for (int p : Edges.outside(0, 5)) {
            Edges.bad(Edges::furnished, "when(" + p + ", 0)", x -> x.when(p, 0));
        }
        Edges.bad(Edges::bare, "no PERSONS", x -> x.when(0, 0));
        Edges.bad(Edges.house("pA1"), "when(1, 0) of one", x -> x.when(1, 0));
    }

    /** Behind how many HOURS of 0 to 11 two are first in one ROOM; NONE: never. */
    private static int together(int room, int pace, int from, int other) {
        for (int h = 0; h < 12; h++) {
            if ((room + h * pace) % 12 == (from + h * other) % 12) {
                return h;
            }
        }
        return NONE;
    }

    private static void meet() {
        Edges.says(31, "Behind how many HOURS (0 .. 11) two first are in one ROOM; which by asked(). NONE: never.");
        for (int from = 0; from < 12; from++) {
            for (int pair = 0; pair < 100; pair++) {
                int pace = pair / 10, other = pair % 10;
                HouseOfHours x = Check.built("pA" + pace + "k" + Edges.roomSign(from) + other);
                int want = together(0, pace, from, other);
                int which = want == NONE ? 0 : want * pace % 12;
                String shown = "0 by " + pace + ", " + from + " by " + other;
                Edges.answers(shown, x, x.meet(0, 1), want, which);
                Edges.answers(shown + ", the other way about", x, x.meet(1, 0), want, which);
            }
        }
        HouseOfHours x = Check.built("pA0pL0pL1");
        Edges.answers("at once", x, x.meet(1, 2), 0, 11);
        HouseOfHours y = Check.built("pB1pA0");
        Edges.answers("behind 11", y, y.meet(0, 1), 11, 0);
        Edges.none(Edges.house("pA0pL0"), "never", z -> z.meet(0, 1));
        Edges.none(Edges.house("pA9pB9"), "never, as fast", z -> z.meet(0, 1));
        Edges.none(Edges::furnished, "NONE leaves what was told", z -> z.meet(4, 1));
        Edges.says(31, "BAD: also the same.");
        notTwo("meet", (z, p, q) -> z.meet(p, q));
    }

    private interface OfTwo {
        long on(HouseOfHours x, int p, int q);
    }

    private static void notTwo(String name, OfTwo call) {
        for (int p : Edges.outside(0, 5)) {
            Edges.bad(Edges::furnished, name + "(" + p + ", 0)", x -> call.on(x, p, 0));
            Edges.bad(Edges::furnished, name + "(0, " + p + ")", x -> call.on(x, 0, p));
            Edges.bad(Edges::furnished, name + "(" + p + ", " + p + ")", x -> call.on(x, p, p));
        }
        for (int p = 0; p < 6; p++) {
            int who = p;
            Edges.bad(Edges::furnished, name + "(" + p + ", " + p + ")", x -> call.on(x, who, who));
        }
        Edges.bad(Edges.house("pA1"), name + "(0, 1) of one", x -> call.on(x, 0, 1));
        Edges.bad(Edges.house("pA1"), name + "(1, 0) of one", x -> call.on(x, 1, 0));
        Edges.bad(Edges::bare, name + " without PERSONS", x -> call.on(x, 0, 1));
    }

    private static void crowdIs(String signs, int hours, int many) {
        HouseOfHours x = Check.built(signs);
        Edges.answers(signs, x, x.crowd(), hours, many);
    }

    private static void crowd() {
        Edges.says(32, "Behind how many HOURS (0 .. 11) most are in one ROOM (the first, the first ROOM); how "
            + "many by asked().");
        crowdIs("pL0", 0, 1);
        crowdIs("pA1pB1pC1pD1pE1pF1", 0, 1);
        crowdIs("pL3pL3pL3pL3pL3pL3", 0, 6);
        crowdIs("pB1pC2pD3pE4pF5pG6", 11, 6);
        crowdIs("pB1pA0", 11, 2);
        // Two and two in two ROOMS at once, and again later: the first HOUR.
        crowdIs("pA0pA0pL0pL0", 0, 2);
        // Two at once, three only behind 11.
        crowdIs("pA0pA0pB1", 11, 3);
        crowdIs("pA0pB1pB1", 11, 3);
        // Three behind 1, and again behind 7.
        crowdIs("pA2pC0pK4", 1, 3);
        Edges.says(32, "STATE: no PERSONS.");
        Edges.stateIs(Edges::bare, "crowd()", x -> x.crowd());
        Edges.stateIs(Edges::fullBare, "crowd() with DEEDS", x -> x.crowd());
    }

    private static void change() {
        Edges.says(33, "The least by which the PACE of the first one would have to be other (0 .. 9), so that "
            + "two meet ever (0: they do); the PACE then (the less of two) by asked().");
        for (int rooms = 0; rooms < 144; rooms++) {
            for (int pair = 0; pair < 100; pair++) {
                changeIs(rooms / 12, pair / 10, rooms % 12, pair % 10);
            }
        }
        HouseOfHours x = Check.built("pA4pB4pA0pB0pA9pB9");
        Edges.answers("the less of 3 and 5", x, x.change(0, 1), 1, 3);
        Edges.answers("none is below 0", x, x.change(2, 3), 1, 1);
        Edges.answers("none is above 9", x, x.change(4, 5), 1, 8);
        Edges.answers("they do", x, x.change(0, 2), 0, 4);
    }

    private static void changeIs(int room, int pace, int from, int other) {
        HouseOfHours x = Check.built("p" + Edges.roomSign(room) + pace + "n" + Edges.roomSign(from) + other);
        int least = 10, which = NONE;
        for (int v = 9; v >= 0; v--) {
            if (together(room, v, from, other) != NONE && Math.abs(v - pace) <= least) {
                least = Math.abs(v - pace);
                which = v;
            }
        }
        Edges.answers(room + " by " + pace + ", " + from + " by " + other, x, x.change(0, 1), least, which);
        Edges.told("nothing is done", x, x.person(0, 2), pace);
    }

    private static void changeNone() {
        // A PACE that is 1 other than the second one's meets it wherever it is, so there always is one of 0 .. 9.
        Edges.says(33, "NONE: by none.");
        for (int rooms = 0; rooms < 144; rooms++) {
            for (int other = 0; other <= 9; other++) {
                char room = Edges.roomSign(rooms / 12), from = Edges.roomSign(rooms % 12);
                HouseOfHours x = Check.built("l" + room + "9k" + from + other);
                int by = x.change(0, 1);
                c.due("by one of 0 .. 9: " + by, by >= 0 && by <= 9 ? 1 : 0, 1);
            }
        }
        Edges.says(33, "BAD: also the same.");
        notTwo("change", (z, p, q) -> z.change(p, q));
    }

    private static void round() {
        Edges.says(34, "How many HOURS (1 .. 12) it takes till all are where they are now, first.");
        int[] want = {1, 12, 6, 4, 3, 12, 2, 12, 3, 4};
        for (int pace = 0; pace <= 9; pace++) {
            for (int room = 0; room < 12; room++) {
                c.due("by " + pace, Check.built("p" + Edges.roomSign(room) + pace).round(), want[pace]);
            }
        }
        c.due("all stay", Check.built("pA0pB0pC0pD0pE0pF0").round(), 1);
        c.due("one of six goes", Check.built("pA0pB0pC0pD0pE0pF1").round(), 12);
        c.due("2 and 3", Check.built("pA6pB4").round(), 6);
        c.due("3 and 4", Check.built("pA4pB3").round(), 12);
        c.due("4 and 6", Check.built("pA3pB2").round(), 12);
        c.due("2 and 4", Check.built("pA6pB9").round(), 4);
        HouseOfHours x = Check.built("pL6");
        x.step(0, 0);
        c.due("where it is now, not at first", x.round(), 2);
        Edges.says(34, "STATE: no PERSONS.");
        Edges.stateIs(Edges::bare, "round()", y -> y.round());
        Edges.stateIs(Edges::fullBare, "round() with DEEDS", y -> y.round());
    }

    private static void paces() {
        Edges.says(35, "PACES (bits 0 .. 9) by which one who is in a ROOM now is n (0 .. 999) HOURS later as "
            + "many DAYS older (0 .. 999).");
        for (int n : new int[] {0, 1, 2, 5, 12, 100, 999}) {
            for (int room : new int[] {0, 6, 11}) {
                HouseOfHours x = new HouseOfHours();
                int all = 0;
                for (int days = 0; days <= 100; days++) {
                    int want = 0;
                    for (int v = 0; v <= 9; v++) {
                        want |= (room + n * v) / 12 == days ? 1 << v : 0;
                    }
                    c.due("paces(" + room + ", " + n + ", " + days + ")", x.paces(room, n, days), want);
                    all |= want;
                }
                c.due("PACE 0 is among them", all & 1, 1);
            }
        }
        HouseOfHours x = new HouseOfHours();
        c.due("all", x.paces(0, 0, 0), 1023);
        c.due("none", x.paces(0, 0, 1), 0);
        c.due("only 0", x.paces(11, 1, 0), 1);
        c.due("only 9", x.paces(11, 999, 750), 1 << 9);
        c.due("just not yet", x.paces(8, 999, 750), 0);
        c.due("just", x.paces(9, 999, 750), 1 << 9);
        c.due("nobody gets so old", x.paces(11, 999, 751), 0);
        c.due("nobody gets so old", x.paces(11, 999, 999), 0);
        c.due("who is there is no matter", Check.built("pA5").paces(11, 1, 0), 1);
    }

    private static void pacesRefused() {
        Edges.says(35, "BAD.");
        for (int room : Edges.outside(0, 11)) {
            Edges.bad(Edges::furnished, "paces(" + room + ", 0, 0)", x -> x.paces(room, 0, 0));
        }
        for (int n : Edges.outside(0, 999)) {
            Edges.bad(Edges::furnished, "paces(0, " + n + ", 0)", x -> x.paces(0, n, 0));
            Edges.bad(Edges::furnished, "paces(0, 0, " + n + ")", x -> x.paces(0, 0, n));
        }
        Edges.bad(Edges::bare, "paces(12, 1000, 1000)", x -> x.paces(12, 1000, 1000));
    }

    /** A HOUSE, and a ROW 0 of ages. */
    private static Edges.Maker with(String signs, int... older) {
        return () -> {
            HouseOfHours x = Check.built(signs);
            Check.fill(x, 0, older);
            x.odds(0, 0, 2);
            return x;
        };
    }

    private static void agesAre(Edges.Maker maker, String shown, int n, int many, int first) {
        HouseOfHours x = maker.make();
        Edges.answers(shown, x, x.ages(0, n), 1, first);
        c.due(shown + ", upper()", x.upper(), many);
        c.due(shown + ", lower()", x.lower(), 1);
    }

    private static void ages() {
        Edges.says(36, "In how many orders of all PERSONS each one is behind n (0 .. 999) HOURS by HABIT as many "
            + "DAYS older than now as the ROW tells at its place, told by upper() (lower() is 1)");
        agesAre(with("pA1", 0), "one, now", 0, 1, 0);
        agesAre(with("pA0", 0), "one that stays, behind 999", 999, 1, 0);
        agesAre(with("pL9", 750), "the oldest, behind 999", 999, 1, 0);
        agesAre(with("pL9", 749), "a DAY less", 999, 0, NONE);
        agesAre(with("pL9", 751), "a DAY more", 999, 0, NONE);
        agesAre(with("pA1pA1pA1pA1pA1pA1", 0, 0, 0, 0, 0, 0), "all orders of six", 11, 720, 1865);
        agesAre(with("pA1pA1pA1pA1pA1pA1", 0, 0, 0, 0, 0, 0), "none of six", 12, 0, NONE);
        agesAre(with("pA1pA1", Edges.MIN, Edges.MAX), "no such ages", 12, 0, NONE);
        agesAre(with("pA1pA1", -1, 1), "below 0", 12, 0, NONE);
        HouseOfHours x = with("pA1pA1", 0, 1).make();
        x.step(0, 11);
        Edges.answers("than now, not than at first", x, x.ages(0, 1), 1, 6);
        c.due("DAYS below 0 are no matter, upper()", x.upper(), 1);
    }

    private static void agesOrder() {
        Edges.says(36, "the first such order by asked() (a number: 6 times that ahead, and the PERSON, one by "
            + "one, 0 ahead; NONE: there is none): 1.");
        // Behind 12 HOURS each is as many DAYS older as its PACE.
        agesAre(with("pA0pA1pA2pA3pA4pA5", 0, 1, 2, 3, 4, 5), "0 to 5", 12, 1, 1865);
        agesAre(with("pA0pA1pA2pA3pA4pA5", 5, 4, 3, 2, 1, 0), "5 to 0", 12, 1, 44790);
        agesAre(with("pA7pA8", 8, 7), "1, 0", 12, 1, 6);
        agesAre(with("pA7pA8", 7, 8), "0, 1", 12, 1, 1);
        agesAre(with("pA7pA8pA9", 9, 7, 8), "2, 0, 1", 12, 1, 73);
        agesAre(with("pA7pA7pA9", 9, 7, 7), "2, 0, 1 is the first of two", 12, 2, 73);
        agesAre(with("pA7pA7pA9", 9, 7, 9), "none", 12, 0, NONE);
        HouseOfHours x = with("pA7", 7).make();
        x.ages(0, 12);
        c.due("an order of one", x.asked(), 0);
        x.ages(0, 11);
        c.due("NONE is told", x.asked(), NONE);
    }

    private static void agesRefused() {
        Edges.says(36, "BAD; STATE: no PERSONS; NOTHING; SIZE: not as many as PERSONS. (In this order.)");
        for (int r : Edges.outside(0, 5)) {
            Edges.bad(Edges::furnished, "ages(" + r + ", 0)", x -> x.ages(r, 0));
            Edges.bad(Edges::bare, "BAD ahead of STATE: ages(" + r + ", 0)", x -> x.ages(r, 0));
        }
        for (int n : Edges.outside(0, 999)) {
            Edges.bad(Edges::furnished, "BAD ahead of SIZE: ages(0, " + n + ")", x -> x.ages(0, n));
            Edges.bad(with("pA1", 0), "ages(0, " + n + ")", x -> x.ages(0, n));
        }
        Edges.stateIs(Edges::bare, "STATE ahead of NOTHING", x -> x.ages(0, 0));
        Edges.Maker rows = () -> {
            HouseOfHours x = new HouseOfHours();
            x.row(0, 0);
            x.row(1, 1);
            return x;
        };
        Edges.stateIs(rows, "no PERSONS, a ROW of none", x -> x.ages(0, 0));
        Edges.stateIs(rows, "STATE ahead of SIZE", x -> x.ages(1, 0));
        Edges.found(Edges::furnished, "a missing ROW", x -> x.ages(5, 0), NOTHING);
        Edges.found(with("pA1pB1"), "none", x -> x.ages(0, 0), SIZE);
        Edges.found(with("pA1pB1", 0), "one fewer", x -> x.ages(0, 0), SIZE);
        Edges.found(with("pA1pB1", 0, 0, 0), "one more", x -> x.ages(0, 0), SIZE);
        Edges.found(Edges::furnished, "forty", x -> x.ages(2, 0), SIZE);
    }
}
