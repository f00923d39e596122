/** The edges that promises 22 to 28 name: ways by STEPS. */
final class WayEdges {
    private static final Check c = Edges.c;
    private static final int NONE = Edges.NONE, NOTHING = Edges.NOTHING, SIZE = Edges.SIZE, UNLIKE = Edges.UNLIKE;

    private WayEdges() {
    }

    static void run() {
        way();
        wayAnew();
        wayRefused();
        within();
        errands();
        errandsRefused();
        best();
        bestAnew();
        bestRefused();
        middle();
        bar();
        barNone();
        parts();
    }

    private static void wayIs(String signs, int room, int... want) {
        HouseOfHours x = Check.built(signs);
        String shown = signs + ", way to " + room;
        c.due(shown, x.way(0, room, 0), want.length - 1);
        Edges.holds(shown, x, 0, want);
    }

    private static void way() {
        Edges.says(22, "The fewest STEPS from its ROOM to another one; such a way (its ROOM first; the first by "
            + "numbers)");
        wayIs("pA1", 0, 0);
        wayIs("pL1", 11, 11);
        wayIs("pA1" + Edges.ALL_SHUT, 0, 0);
        wayIs("pL1", 0, 11, 0);
        wayIs("pA1", 11, 0, 11);
        wayIs("pA1xL", 11, 0, 1, 2, 3, 4, 5, 6, 7, 8, 9, 10, 11);
        wayIs("pL1xL", 0, 11, 10, 9, 8, 7, 6, 5, 4, 3, 2, 1, 0);
        wayIs("pA1", 6, 0, 1, 2, 3, 4, 5, 6);
        wayIs("pG1", 0, 6, 5, 4, 3, 2, 1, 0);
        wayIs("pD1", 9, 3, 2, 1, 0, 11, 10, 9);
        wayIs("pJ1", 3, 9, 8, 7, 6, 5, 4, 3);
        wayIs("kA1" + Edges.ALL_SHUT, 6, 0, 1, 2, 3, 4, 5, 6);
        // Two ways that part, join and part again: the lower ROOM each time.
        wayIs("sA1xAxBxCxDxExFxGxHxIxJxKxLtACtAEtCKtEK", 10, 0, 2, 10);
        wayIs("sK1xAxBxCxDxExFxGxHxIxJxKxLtACtAEtCKtEK", 0, 10, 2, 0);
        wayIs("sF1tFL", 0, 5, 11, 0);
        wayIs("lA1xLtAL", 11, 0, 11);
    }

    private static void wayAnew() {
        Edges.says(22, "comes to a ROW (anew).");
        for (int r = 0; r < 6; r++) {
            HouseOfHours x = Check.built("pA1");
            c.due("to a missing ROW", x.way(0, 2, r), 2);
            Edges.holds("to a missing ROW", x, r, 0, 1, 2);
            c.due("count(6)", x.count(6), 1);
            x.row(r, 40);
            x.lay(r, 39, 9);
            c.due("to a ROW of 40", x.way(0, 10, r), 2);
            Edges.holds("to a ROW of 40", x, r, 0, 11, 10);
            c.due("to a longer one again", x.way(0, 3, r), 3);
            Edges.holds("to a longer one again", x, r, 0, 1, 2, 3);
        }
    }

    private static void wayRefused() {
        Edges.says(22, "NONE: it can't come there. BAD.");
        Edges.none(Edges.house("pA1xAxL"), "shut in", x -> x.way(0, 1, 0));
        Edges.none(Edges::furnished, "to a ROW that is there", x -> x.way(2, 6, 0));
        Edges.none(Edges::furnished, "to a missing ROW", x -> x.way(2, 6, 5));
        Edges.none(Edges.house("cA1"), "a CHILD to the other half", x -> x.way(0, 11, 0));
        Edges.none(Edges.house("nA1xLtAL"), "no STAIRS", x -> x.way(0, 11, 0));
        for (int p : Edges.outside(0, 5)) {
            Edges.bad(Edges::furnished, "way(" + p + ", 0, 0)", x -> x.way(p, 0, 0));
        }
        for (int room : Edges.outside(0, 11)) {
            Edges.bad(Edges::furnished, "way(0, " + room + ", 0)", x -> x.way(0, room, 0));
        }
        for (int r : Edges.outside(0, 5)) {
            Edges.bad(Edges::furnished, "way(0, 1, " + r + ")", x -> x.way(0, 1, r));
            Edges.bad(Edges::furnished, "BAD ahead of NONE: way(2, 6, " + r + ")", x -> x.way(2, 6, r));
        }
        Edges.bad(Edges::bare, "no PERSONS", x -> x.way(0, 0, 0));
        Edges.bad(Edges.house("pA1"), "way(1, 0, 0) of one", x -> x.way(1, 0, 0));
    }

    private static void within() {
        Edges.says(23, "ROOMS (bits) in which one can be behind n (0 .. 12) STEPS at most. BAD.");
        HouseOfHours ring = Check.built("pA1"), line = Check.built("pA1xL"), back = Check.built("pL1xL");
        HouseOfHours alone = Check.built("pE1" + Edges.ALL_SHUT), cat = Check.built("kL1" + Edges.ALL_SHUT);
        for (int n = 0; n <= 12; n++) {
            int both = 0, up = 0, down = 0, fromLast = 0;
            for (int room = 0; room < 12; room++) {
                both |= Math.min(room, 12 - room) <= n ? 1 << room : 0;
                up |= room <= n ? 1 << room : 0;
                down |= 11 - room <= n ? 1 << room : 0;
                fromLast |= Math.min(11 - room, room + 1) <= n ? 1 << room : 0;
            }
            c.due("both ways, " + n, ring.within(0, n), both);
            c.due("one way, " + n, line.within(0, n), up);
            c.due("the other way, " + n, back.within(0, n), down);
            c.due("a CAT, " + n, cat.within(0, n), fromLast);
            c.due("shut in, " + n, alone.within(0, n), 1 << 4);
        }
        c.due("11 STEPS to the last one", line.within(0, 11), Edges.ALL_ROOMS);
        for (int n : Edges.outside(0, 12)) {
            Edges.bad(Edges::furnished, "within(0, " + n + ")", x -> x.within(0, n));
        }
        for (int p : Edges.outside(0, 5)) {
            Edges.bad(Edges::furnished, "within(" + p + ", 0)", x -> x.within(p, 0));
        }
        Edges.bad(Edges::bare, "no PERSONS", x -> x.within(0, 0));
        Edges.bad(Edges.house("pA1"), "within(1, 0) of one", x -> x.within(1, 0));
    }

    /** A HOUSE, and a ROW 0 of errands. */
    private static Edges.Maker with(String signs, int... errands) {
        return () -> {
            HouseOfHours x = Check.built(signs);
            Check.fill(x, 0, errands);
            return x;
        };
    }

    private static void errands() {
        Edges.says(24, "The fewest STEPS for errands in a ROW (ROOMS, 8 at most) in this order.");
        c.due("none", with("pA1").make().errands(0, 0), 0);
        c.due("none, shut in", with("pA1xAxL").make().errands(0, 0), 0);
        c.due("its own ROOM", with("pA1", 0).make().errands(0, 0), 0);
        c.due("its own ROOM, eight times", with("pL1", 11, 11, 11, 11, 11, 11, 11, 11).make().errands(0, 0), 0);
        c.due("eight", with("pA1xL", 11, 0, 11, 0, 11, 0, 11, 0).make().errands(0, 0), 88);
        c.due("seven", with("pA1xL", 11, 0, 11, 0, 11, 0, 11).make().errands(0, 0), 77);
        c.due("in this order", with("pA1xL", 3, 1, 3).make().errands(0, 0), 7);
        c.due("round", with("pL1", 0, 11).make().errands(0, 0), 2);
        Edges.says(24, "NONE: it can't come to one.");
        Edges.none(with("cA1", 6), "the only one", x -> x.errands(0, 0));
        Edges.none(with("cA1", 1, 2, 3, 4, 5, 4, 3, 6), "the last of eight", x -> x.errands(0, 0));
        Edges.none(with("cA1", 6, 0), "the first", x -> x.errands(0, 0));
    }

    private static void errandsRefused() {
        Edges.says(24, "BAD; NOTHING; SIZE: more than 8; UNLIKE. (In this order.)");
        for (int p : Edges.outside(0, 5)) {
            Edges.bad(Edges::furnished, "errands(" + p + ", 1)", x -> x.errands(p, 1));
            Edges.bad(Edges::furnished, "BAD ahead of NOTHING: errands(" + p + ", 5)", x -> x.errands(p, 5));
        }
        for (int r : Edges.outside(0, 5)) {
            Edges.bad(Edges::furnished, "errands(0, " + r + ")", x -> x.errands(0, r));
        }
        Edges.bad(Edges::bare, "no PERSONS", x -> x.errands(0, 0));
        Edges.found(Edges::furnished, "a missing ROW", x -> x.errands(0, 5), NOTHING);
        Edges.found(with("pA1", 0, 0, 0, 0, 0, 0, 0, 0, 0), "nine", x -> x.errands(0, 0), SIZE);
        Edges.found(Edges::furnished, "forty", x -> x.errands(0, 2), SIZE);
        Edges.found(with("pA1", 0, 0, 0, 0, 12, 0, 0, 0, 0), "SIZE ahead of UNLIKE", x -> x.errands(0, 0), SIZE);
        for (int none : Edges.outside(0, 11)) {
            Edges.found(with("pA1", none), none + " alone", x -> x.errands(0, 0), UNLIKE);
            Edges.found(with("pA1", 1, 2, 3, 4, 5, 6, 7, none), none + " last of 8", x -> x.errands(0, 0), UNLIKE);
            Edges.found(with("cA1", 6, none), "UNLIKE ahead of NONE", x -> x.errands(0, 0), UNLIKE);
        }
    }

    private static void bestIs(Edges.Maker maker, String shown, int steps, int... order) {
        HouseOfHours x = maker.make();
        c.due(shown, x.best(0, 0, 3), steps);
        Edges.holds(shown, x, 3, order);
    }

    private static void best() {
        Edges.says(25, "The fewest STEPS for errands in a ROW (6 at most) in whatever order; the first such "
            + "order comes to another ROW (their places in the ROW, one by one;");
        bestIs(with("pA1"), "none", 0);
        bestIs(with("pA1xAxL"), "none, shut in", 0);
        bestIs(with("pA1", 7), "one", 5, 0);
        bestIs(with("pA1", 0), "its own ROOM", 0, 0);
        bestIs(with("pA1xL", 6, 5, 4, 3, 2, 1), "six, the last order of all", 6, 5, 4, 3, 2, 1, 0);
        bestIs(with("pA1xL", 1, 2, 3, 4, 5, 6), "six, the first order of all", 6, 0, 1, 2, 3, 4, 5);
        bestIs(with("pA1", 4, 4, 4, 4, 4, 4), "six alike: the first order", 4, 0, 1, 2, 3, 4, 5);
        bestIs(with("pA1", 1, 11), "either first: the first order", 3, 0, 1);
        bestIs(with("pA1", 11, 1), "either first: the first order", 3, 0, 1);
        bestIs(with("pA1", 2, 1, 2, 1), "alike by two", 2, 1, 3, 0, 2);
        bestIs(with("pA1", 3, 0), "its own ROOM ahead", 3, 1, 0);
        bestIs(with("sA1xLtAG", 7, 6, 1, 2, 11, 10), "by STAIRS", 10, 2, 3, 1, 0, 5, 4);
    }

    private static void bestAnew() {
        Edges.says(25, "anew; it may be the same).");
        HouseOfHours x = with("pA1", 3, 2, 1).make();
        c.due("the same", x.best(0, 0, 0), 3);
        Edges.holds("the same", x, 0, 2, 1, 0);
        HouseOfHours y = with("pA1", 3, 2, 1).make();
        y.row(5, 40);
        y.lay(5, 39, 4);
        c.due("a ROW of 40", y.best(0, 0, 5), 3);
        Edges.holds("a ROW of 40", y, 5, 2, 1, 0);
        Edges.holds("the errands stay", y, 0, 3, 2, 1);
        c.due("a missing ROW", y.best(0, 0, 4), 3);
        c.due("is there then", y.count(6), 3);
        y.row(0, 0);
        c.due("none", y.best(0, 0, 5), 0);
        Edges.holds("none", y, 5);
        Edges.says(25, "NONE: it can't come to one.");
        Edges.none(with("cA1", 1, 2, 3, 4, 5, 6), "the last of six", z -> z.best(0, 0, 1));
        Edges.none(with("cA1", 6, 1), "the first", z -> z.best(0, 0, 0));
        Edges.none(with("pA1xAxL", 0, 1), "shut in", z -> z.best(0, 0, 5));
    }

    private static void bestRefused() {
        Edges.says(25, "BAD; NOTHING; SIZE: more than 6; UNLIKE. (In this order.)");
        for (int p : Edges.outside(0, 5)) {
            Edges.bad(Edges::furnished, "best(" + p + ", 1, 0)", x -> x.best(p, 1, 0));
        }
        for (int r : Edges.outside(0, 5)) {
            Edges.bad(Edges::furnished, "best(0, " + r + ", 0)", x -> x.best(0, r, 0));
            Edges.bad(Edges::furnished, "best(0, 1, " + r + ")", x -> x.best(0, 1, r));
            Edges.bad(Edges::furnished, "BAD ahead of NOTHING: best(0, 5, " + r + ")", x -> x.best(0, 5, r));
        }
        Edges.bad(Edges::bare, "no PERSONS", x -> x.best(0, 0, 0));
        Edges.found(Edges::furnished, "a missing ROW", x -> x.best(0, 5, 0), NOTHING);
        Edges.found(Edges::furnished, "a missing ROW, the same", x -> x.best(0, 5, 5), NOTHING);
        Edges.found(with("pA1", 0, 0, 0, 0, 0, 0, 0), "seven", x -> x.best(0, 0, 1), SIZE);
        Edges.found(Edges::furnished, "forty", x -> x.best(0, 2, 1), SIZE);
        Edges.found(with("pA1", 0, 0, 0, 12, 0, 0, 0), "SIZE ahead of UNLIKE", x -> x.best(0, 0, 1), SIZE);
        for (int none : Edges.outside(0, 11)) {
            Edges.found(with("pA1", none), none + " alone", x -> x.best(0, 0, 0), UNLIKE);
            Edges.found(with("pA1", 1, 2, 3, 4, 5, none), none + " last of 6", x -> x.best(0, 0, 1), UNLIKE);
            Edges.found(with("cA1", 6, none), "UNLIKE ahead of NONE", x -> x.best(0, 0, 1), UNLIKE);
        }
    }

    private static void middleIs(String signs, int room, int steps) {
        HouseOfHours x = Check.built(signs);
        Edges.answers(signs, x, x.middle(0, 1), room, steps);
        Edges.answers(signs + ", the other way about", x, x.middle(1, 0), room, steps);
    }

    private static void middle() {
        Edges.says(26, "The ROOM (the first) to which two come by fewest STEPS of both together; how many by "
            + "asked().");
        middleIs("pA1pA1", 0, 0);
        middleIs("pL1pL1", 11, 0);
        middleIs("pL1pA1", 0, 1);
        middleIs("pA1pG1", 0, 6);
        middleIs("pL1pF1", 0, 6);
        middleIs("pK1pI1", 8, 2);
        middleIs("pC1pC1" + Edges.ALL_SHUT, 2, 0);
        middleIs("kL1pB1" + Edges.ALL_SHUT, 1, 2);
        middleIs("cF1pG1", 5, 1);
        middleIs("cF1nG1xA", Edges.NONE, 0);
        Edges.says(26, "NONE: none.");
        Edges.none(Edges.house("pA1pB1xAxL"), "shut in", x -> x.middle(0, 1));
        Edges.none(Edges.house("cA1cL1"), "two CHILDREN", x -> x.middle(1, 0));
        Edges.Maker told = () -> {
            HouseOfHours x = Check.built("cA1cL1pB1");
            x.middle(0, 2);
            return x;
        };
        Edges.none(told, "NONE leaves what was told", x -> x.middle(0, 1));
        c.due("it was told", told.make().asked(), 1);
        Edges.says(26, "BAD: also the same.");
        for (int p : Edges.outside(0, 5)) {
            Edges.bad(Edges::furnished, "middle(" + p + ", 0)", x -> x.middle(p, 0));
            Edges.bad(Edges::furnished, "middle(0, " + p + ")", x -> x.middle(0, p));
        }
        for (int p = 0; p < 6; p++) {
            int who = p;
            Edges.bad(Edges::furnished, "middle(" + p + ", " + p + ")", x -> x.middle(who, who));
        }
        Edges.bad(Edges.house("pA1"), "of one", x -> x.middle(0, 1));
        Edges.bad(Edges::bare, "no PERSONS", x -> x.middle(0, 1));
    }

    private static void barIs(String signs, int room, int many, int which) {
        HouseOfHours x = Check.built(signs);
        Edges.answers(signs + ", bar from " + room, x, x.bar(0, room), many, which);
        c.due(signs + ", nothing is SHUT", x.count(4), 0);
    }

    private static void bar() {
        Edges.says(27, "The fewest DOORS more to be SHUT (of those through which one can go) so that a PERSON "
            + "does not come to a ROOM; which by asked() (bits; the least of as few).");
        barIs("pA1xAxL", 6, 0, 0);
        barIs("cA1", 6, 0, 0);
        barIs("pA1" + Edges.ALL_SHUT, 6, 0, 0);
        // One DOOR is left to be SHUT: elsewhere, beside it but not on the way, on the way.
        barIs("pA1" + Edges.ALL_SHUT.replace("xK", ""), 10, 0, 0);
        barIs("pA1" + Edges.ALL_SHUT.replace("xA", ""), 11, 0, 0);
        barIs("pA1" + Edges.ALL_SHUT.replace("xA", ""), 1, 1, 1);
        barIs("pA1" + Edges.ALL_SHUT.replace("xL", ""), 11, 1, 1 << 11);
        barIs("pA1xL", 11, 1, 1);
        barIs("pA1xA", 1, 1, 1 << 1);
        barIs("pA1", 1, 2, 1 | 1 << 1);
        barIs("pA1", 11, 2, 1 | 1 << 11);
        barIs("pL1", 0, 2, 1 | 1 << 11);
        barIs("pF1", 6, 2, 1 | 1 << 5);
        barIs("cA1", 5, 1, 1);
        barIs("cF1", 0, 1, 1);
        barIs("cL1", 6, 1, 1 << 6);
        barIs("nA1", 5, 1, 1);
        barIs("nG1", 5, 1, 1);
        barIs("nL1", 0, 1, 1 << 11);
        // All that lead from ROOM 0 or to ROOM 6; STAIRS about both, so that more are needed.
        barIs("sA1tACtACtAC", 6, 2, 1 << 2 | 1 << 6);
        barIs("sA1tADtDGtBJtJE", 1, 6, 1 | 1 << 1 | 1 << 3 | 1 << 4 | 1 << 6 | 1 << 9);
    }

    private static void barNone() {
        Edges.says(27, "NONE: it does all the same.");
        for (int room = 1; room < 12; room++) {
            int to = room;
            Edges.none(Edges.house("kA1"), "a CAT to " + room, x -> x.bar(0, to));
        }
        Edges.none(Edges.house("kA1" + Edges.ALL_SHUT), "a CAT, all SHUT", x -> x.bar(0, 6));
        Edges.none(Edges.house("sA1tAG"), "by a STAIR", x -> x.bar(0, 6));
        Edges.none(Edges.house("lA1tACtCG" + Edges.ALL_SHUT), "by two STAIRS", x -> x.bar(0, 6));
        Edges.says(27, "BAD: also its own ROOM.");
        for (int room = 0; room < 12; room++) {
            int own = room;
            Edges.bad(Edges.house("p" + Edges.roomSign(room) + "1"), "its own ROOM " + room, x -> x.bar(0, own));
        }
        Edges.bad(Edges.house("kA1"), "a CAT's own ROOM", x -> x.bar(0, 0));
        for (int room : Edges.outside(0, 11)) {
            Edges.bad(Edges::furnished, "bar(0, " + room + ")", x -> x.bar(0, room));
        }
        for (int p : Edges.outside(0, 5)) {
            Edges.bad(Edges::furnished, "bar(" + p + ", 0)", x -> x.bar(p, 0));
        }
        Edges.bad(Edges::bare, "no PERSONS", x -> x.bar(0, 1));
        Edges.bad(Edges.house("pA1"), "bar(1, 3) of one", x -> x.bar(1, 3));
    }

    private static void parts() {
        Edges.says(28, "How many parts the ROOMS are in, for one who goes like a PERSON (each as far as it can). "
            + "BAD.");
        StringBuilder shut = new StringBuilder();
        for (int n = 0; n <= 12; n++) {
            c.due(n + " SHUT", Check.built("pF1" + shut).parts(0), Math.max(1, n));
            c.due(n + " SHUT, a CAT", Check.built("kF1" + shut).parts(0), 1);
            if (n < 12) {
                shut.append('x').append(Edges.roomSign(n));
            }
        }
        c.due("a CHILD", Check.built("cA1").parts(0), 2);
        c.due("SLEEPLESS", Check.built("nA1").parts(0), 1);
        c.due("SLEEPLESS, one SHUT", Check.built("nA1xL").parts(0), 2);
        c.due("a CHILD, all SHUT", Check.built("cA1" + Edges.ALL_SHUT).parts(0), 12);
        c.due("four STAIRS", Check.built("sA1tABtCDtEFtKL" + Edges.ALL_SHUT).parts(0), 8);
        c.due("four STAIRS, not a SERVANT", Check.built("pA1tABtCDtEFtKL" + Edges.ALL_SHUT).parts(0), 12);
        for (int p : Edges.outside(0, 5)) {
            Edges.bad(Edges::furnished, "parts(" + p + ")", x -> x.parts(p));
        }
        Edges.bad(Edges::bare, "no PERSONS", x -> x.parts(0));
        Edges.bad(Edges.house("pA1"), "parts(1) of one", x -> x.parts(1));
    }
}
