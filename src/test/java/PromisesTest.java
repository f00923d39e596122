/** For each promise of the document: ordinary inputs, the edges that it names, wrong inputs. */
public final class PromisesTest {
    private static final int BAD = -1, FULL = -2, FINDING = -3, STATE = -4, NONE = -9;
    private static final int MIN = Integer.MIN_VALUE, MAX = Integer.MAX_VALUE;
    private static final Check c = new Check();

    public static void main(String[] args) {
        newObject();
        row();
        lay();
        at();
        tear();
        copy();
        mean();
        text();
        put();
        fault();
        house();
        person();
        stepsOfKinds();
        door();
        mark();
        pace();
        step();
        hour();
        turn();
        undo();
        keep();
        on();
        way();
        within();
        errands();
        best();
        middle();
        bar();
        parts();
        later();
        when();
        meet();
        crowd();
        change();
        round();
        paces();
        ages();
        odds();
        lots();
        asked();
        upperAndLower();
        count();
        finding();
        findings();
        digest();
        c.end();
    }

    private static HouseOfHours made() {
        return new HouseOfHours();
    }

    private static void told(String call, HouseOfHours x, long answer, int asked) {
        c.due(call, answer, 1);
        c.due(call + ", asked()", x.asked(), asked);
    }

    private static void found(String call, HouseOfHours x, long answer, int which) {
        c.due(call, answer, FINDING);
        c.due(call + ", finding()", x.finding(), which);
    }

    private static void chance(String call, HouseOfHours x, long answer, long upper, long lower) {
        c.due(call, answer, 1);
        c.due(call + ", upper()", x.upper(), upper);
        c.due(call + ", lower()", x.lower(), lower);
    }

    private static void holds(String call, HouseOfHours x, int r, int... places) {
        for (int i = 0; i < places.length; i++) {
            told(call + ", ROW place " + i, x, x.at(r, i), places[i]);
        }
        c.due(call + ", ROW ends", x.at(r, places.length), FINDING);
    }

    private static void newObject() {
        c.in("1 new");
        HouseOfHours x = made();
        for (int what = 0; what <= 8; what++) {
            c.due("count(" + what + ")", x.count(what), 0);
        }
        for (int i = 0; i < 12; i++) {
            c.due("door(" + i + ")", x.door(i), 0);
        }
        c.due("asked()", x.asked(), 0);
        c.due("upper()", x.upper(), 0);
        c.due("lower()", x.lower(), 1);
        c.due("finding()", x.finding(), 0);
        for (int f = 1; f <= 5; f++) {
            c.due("findings(" + f + ")", x.findings(f), 0);
        }
        found("at(0, 0)", x, x.at(0, 0), 1);
        found("put(0, 0, 0)", x, x.put(0, 0, 0), 1);
        c.due("person(0, 0)", x.person(0, 0), BAD);
        HouseOfHours y = made();
        x.row(0, 3);
        c.due("another object's count(6)", y.count(6), 0);
        c.due("another object's findings(1)", y.findings(1), 0);
    }

    private static void row() {
        c.in("2 row");
        HouseOfHours x = made();
        c.due("row(5, 40)", x.row(5, 40), 40);
        told("at(5, 39)", x, x.at(5, 39), 0);
        c.due("row(0, 0)", x.row(0, 0), 0);
        c.due("count(6)", x.count(6), 2);
        c.due("row(0, 41)", x.row(0, 41), BAD);
        c.due("row(6, 1)", x.row(6, 1), BAD);
        c.due("row(-1, 1)", x.row(-1, 1), BAD);
        c.due("row(6, -1)", x.row(6, -1), BAD);
        c.due("finding()", x.finding(), 0);
        found("row(0, -1)", x, x.row(0, -1), 5);
        found("row(0, MIN)", x, x.row(0, MIN), 5);
        c.due("row(0, MAX)", x.row(0, MAX), BAD);
        x.lay(5, 7, 70);
        found("row(5, -1)", x, x.row(5, -1), 5);
        told("a refused row() leaves the ROW", x, x.at(5, 7), 70);
        c.due("row(5, 9)", x.row(5, 9), 9);
        told("made anew", x, x.at(5, 7), 0);
        found("at(5, 9)", x, x.at(5, 9), 2);
    }

    private static void lay() {
        c.in("3 lay");
        HouseOfHours x = made();
        x.row(2, 3);
        told("lay(2, 0, MIN)", x, x.lay(2, 0, MIN), 0);
        told("lay(2, 0, MAX)", x, x.lay(2, 0, MAX), MIN);
        told("lay(2, 2, -9)", x, x.lay(2, 2, -9), 0);
        told("at(2, 0)", x, x.at(2, 0), MAX);
        told("at(2, 1)", x, x.at(2, 1), 0);
        c.due("lay(6, 0, 1)", x.lay(6, 0, 1), BAD);
        c.due("lay(-1, 0, 1)", x.lay(-1, 0, 1), BAD);
        found("lay(3, 0, 1)", x, x.lay(3, 0, 1), 1);
        found("lay(2, 3, 1)", x, x.lay(2, 3, 1), 2);
        found("lay(2, -1, 1)", x, x.lay(2, -1, 1), 2);
        found("lay(3, -1, 1): NOTHING is ahead", x, x.lay(3, -1, 1), 1);
        c.due("asked() is not changed by refusals", x.asked(), 0);
        told("at(2, 2)", x, x.at(2, 2), -9);
    }

    private static void at() {
        c.in("4 at");
        HouseOfHours x = made();
        Check.fill(x, 1, 5, -6, 7);
        told("at(1, 0)", x, x.at(1, 0), 5);
        told("at(1, 1)", x, x.at(1, 1), -6);
        told("at(1, 2)", x, x.at(1, 2), 7);
        c.due("at(6, 0)", x.at(6, 0), BAD);
        c.due("at(-1, 0)", x.at(-1, 0), BAD);
        found("at(0, 9)", x, x.at(0, 9), 1);
        found("at(1, 3)", x, x.at(1, 3), 2);
        found("at(1, MIN)", x, x.at(1, MIN), 2);
        found("at(1, MAX)", x, x.at(1, MAX), 2);
        c.due("asked()", x.asked(), 7);
    }

    private static void tear() {
        c.in("5 tear");
        HouseOfHours x = made();
        x.row(0, 0);
        x.row(5, 2);
        c.due("tear(0)", x.tear(0), 1);
        c.due("tear(5)", x.tear(5), 1);
        c.due("count(6)", x.count(6), 0);
        found("at(5, 0)", x, x.at(5, 0), 1);
        found("tear(5)", x, x.tear(5), 1);
        c.due("tear(6)", x.tear(6), BAD);
        c.due("tear(-1)", x.tear(-1), BAD);
        c.due("findings(1)", x.findings(1), 2);
    }

    private static void copy() {
        c.in("6 copy");
        HouseOfHours x = made();
        Check.fill(x, 0, 1, 2, 3, 4, 5);
        Check.fill(x, 1, 9, 9, 9);
        c.due("copy(0, 2, 1, 1, 2)", x.copy(0, 2, 1, 1, 2), 1);
        holds("copy", x, 1, 9, 3, 4);
        c.due("copy(0, 0, 0, 1, 4)", x.copy(0, 0, 0, 1, 4), 1);
        holds("upward, as if taken ahead", x, 0, 1, 1, 2, 3, 4);
        c.due("copy(0, 1, 0, 0, 4)", x.copy(0, 1, 0, 0, 4), 1);
        holds("downward, as if taken ahead", x, 0, 1, 2, 3, 4, 4);
        c.due("none to the end", x.copy(0, 5, 1, 3, 0), 1);
        c.due("asked() is not told", x.asked(), 4);
        c.due("copy(6, ..)", x.copy(6, 0, 0, 0, 0), BAD);
        c.due("copy(.., -1, ..)", x.copy(0, 0, -1, 0, 0), BAD);
        c.due("copy(.., 6, .., -1)", x.copy(0, 0, 6, 0, -1), BAD);
        found("SIZE ahead of NOTHING", x, x.copy(5, 0, 4, 0, -1), 5);
        found("SIZE", x, x.copy(0, 0, 1, 0, MIN), 5);
        found("NOTHING: the first", x, x.copy(5, 0, 0, 0, 0), 1);
        found("NOTHING: the second, ahead of BEYOND", x, x.copy(0, 9, 5, 0, 1), 1);
        found("BEYOND: taken", x, x.copy(0, 4, 1, 0, 2), 2);
        found("BEYOND: laid", x, x.copy(0, 0, 1, 2, 2), 2);
        found("BEYOND: from below 0", x, x.copy(0, -1, 1, 0, 1), 2);
        found("BEYOND: to below 0", x, x.copy(0, 0, 1, -1, 1), 2);
        found("BEYOND: without wrap-around", x, x.copy(0, MAX, 1, 0, 1), 2);
        found("BEYOND: so many", x, x.copy(0, 1, 1, 1, MAX), 2);
        found("BEYOND: none from behind the end", x, x.copy(0, 6, 1, 0, 0), 2);
        holds("refusals change nothing", x, 1, 9, 3, 4);
    }

    private static void mean() {
        c.in("7 mean");
        HouseOfHours x = made();
        Check.fill(x, 0, 1, 2, 5);
        told("cut", x, x.mean(0), 2);
        Check.fill(x, 0, -1, -2, -5);
        told("cut below 0", x, x.mean(0), -2);
        Check.fill(x, 0, MAX, MAX, MAX);
        told("no wrap-around", x, x.mean(0), MAX);
        Check.fill(x, 0, MIN, MIN);
        told("nor below", x, x.mean(0), MIN);
        x.row(5, 40);
        x.lay(5, 39, 81);
        told("of 40", x, x.mean(5), 2);
        told("MIN again", x, x.mean(0), MIN);
        Check.fill(x, 1);
        found("mean of none", x, x.mean(1), 4);
        found("mean(2)", x, x.mean(2), 1);
        c.due("mean(6)", x.mean(6), BAD);
        c.due("mean(-1)", x.mean(-1), BAD);
        c.due("asked()", x.asked(), MIN);
    }

    private static void text() {
        c.in("8 text");
        HouseOfHours x = made();
        c.due("text(3, 60)", x.text(3, 60), 60);
        c.due("blanks", x.put(3, 59, 7), 1032);
        c.due("text(0, 0)", x.text(0, 0), 0);
        c.due("count(7)", x.count(7), 2);
        c.due("text(3, 61)", x.text(3, 61), BAD);
        c.due("text(4, 1)", x.text(4, 1), BAD);
        c.due("text(-1, 1)", x.text(-1, 1), BAD);
        c.due("text(4, -1)", x.text(4, -1), BAD);
        found("text(1, -1)", x, x.text(1, -1), 5);
        found("put(1, 0, 0)", x, x.put(1, 0, 0), 1);
        c.due("kept", x.put(3, 59, 8), 1007);
        x.text(3, 60);
        c.due("anew", x.put(3, 59, 8), 1032);
    }

    private static void put() {
        c.in("9 put");
        HouseOfHours x = made();
        x.text(2, 2);
        c.due("put(2, 1, 200)", x.put(2, 1, 200), 1032);
        c.due("200 is -56 as a byte", x.put(2, 1, 256 + 65), 944);
        c.due("321 is 65", x.put(2, 1, -128), 1065);
        c.due("-128", x.put(2, 1, 127), 872);
        c.due("127", x.put(2, 1, 128), 1127);
        c.due("128 is -128", x.put(2, 1, 0), 872);
        c.due("the other place", x.put(2, 0, 0), 1032);
        c.due("put(4, ..)", x.put(4, 0, 0), BAD);
        c.due("put(-1, ..)", x.put(-1, 0, 0), BAD);
        found("put(1, 5, ..)", x, x.put(1, 5, 0), 1);
        found("put(2, 2, ..)", x, x.put(2, 2, 0), 2);
        found("put(2, -1, ..)", x, x.put(2, -1, 0), 2);
    }

    private static void faultIs(String signs, int want) {
        HouseOfHours x = made();
        Check.write(x, 1, signs);
        c.due("fault of \"" + signs + "\"", x.fault(1), want);
        c.due("house of \"" + signs + "\" is refused", x.house(1) < 0 ? 1 : 0, want == NONE ? 0 : 1);
    }

    private static void fault() {
        c.in("10 fault");
        faultIs("pA0", NONE);
        faultIs("  sL9   tALxCkB1  ", NONE);
        faultIs("pA0pB1sC2cD3kE4lF5", NONE);
        faultIs("nA0tABtBAtABtBC", NONE);
        faultIs("xAxBxCxDxExFxGxHxIxJxKxLpA1", NONE);
        faultIs("", 0);
        faultIs("    ", 4);
        faultIs("xA tAB", 6);
        faultIs("q", 0);
        faultIs("pA0 PA0", 4);
        faultIs("pA0 5", 4);
        faultIs("p", 1);
        faultIs("pA", 2);
        faultIs("pM0", 1);
        faultIs("p@0", 1);
        faultIs("pa0", 1);
        faultIs("p A0", 1);
        faultIs("pA 0", 2);
        faultIs("pA/", 2);
        faultIs("pA:", 2);
        faultIs("pA00", 3);
        faultIs("pA0t", 4);
        faultIs("pA0tB", 5);
        faultIs("pA0tBB", 5);
        faultIs("pA0tBM", 5);
        faultIs("pA0tMB", 4);
        faultIs("pA0t AB", 4);
        faultIs("pA0tA B", 5);
        faultIs("pA0x", 4);
        faultIs("pA0xM", 4);
        faultIs("pA0x A", 4);
        faultIs("pA0xBxB", 6);
        faultIs("pA0 tABtABtABtAB tAB", 17);
        faultIs("pA0pA0pA0pA0pA0pA0 s", 19);
        faultIs("tABtABtABtABt", 12);
        HouseOfHours x = made();
        x.text(0, 60);
        c.due("fault(0)", x.fault(0), 60);
        c.due("fault(4)", x.fault(4), BAD);
        c.due("fault(-1)", x.fault(-1), BAD);
        found("fault(2)", x, x.fault(2), 1);
        Check.write(x, 2, "pC4");
        x.house(2);
        Check.write(x, 2, "kA1kB2");
        c.due("fault(2)", x.fault(2), NONE);
        c.due("fault() builds nothing", x.count(0), 1);
        told("person(0, 1)", x, x.person(0, 1), 2);
    }

    private static void house() {
        c.in("11 house");
        HouseOfHours x = made();
        Check.write(x, 0, "xL sB3 tCA lK9 xE tLA");
        c.due("house(0)", x.house(0), 2);
        int[] want = {2, 2, 2, 0, 0, 2, 0, 1, 0};
        for (int what = 0; what <= 8; what++) {
            c.due("count(" + what + ")", x.count(what), want[what]);
        }
        told("PERSON 0", x, x.person(0, 0), 1);
        told("PERSON 0", x, x.person(0, 1), 1);
        told("PERSON 0", x, x.person(0, 2), 3);
        told("PERSON 1", x, x.person(1, 0), 4);
        told("PERSON 1", x, x.person(1, 1), 10);
        told("PERSON 1", x, x.person(1, 2), 9);
        c.due("door(11)", x.door(11), 1);
        c.due("door(4)", x.door(4), 1);
        c.due("door(0)", x.door(0), 0);
        c.due("hour()", x.hour(), 2);
        c.due("step(0, 3)", x.step(0, 3), 1000);
        c.due("turn(0, 1)", x.turn(0, 1), 3);
        x.keep(0);
        x.keep(2);
        Check.write(x, 1, "pM1");
        c.due("a FAULT", x.house(1), STATE);
        c.due("count(8)", x.count(8), 2);
        c.due("count(4)", x.count(4), 3);
        found("house(3)", x, x.house(3), 1);
        c.due("house(4)", x.house(4), BAD);
        c.due("house(-1)", x.house(-1), BAD);
        c.due("count(0)", x.count(0), 2);
        Check.write(x, 1, "nF2");
        c.due("house(1)", x.house(1), 1);
        int[] anew = {1, 0, 0, 0, 0, 0, 0, 2, 0};
        for (int what = 0; what <= 8; what++) {
            c.due("anew count(" + what + ")", x.count(what), anew[what]);
        }
        told("DAYS", x, x.person(0, 3), 0);
        told("STEPS", x, x.person(0, 5), 0);
        found("kept HOUSES went", x, x.on(0), 1);
        x.text(1, 0);
        c.due("the HOUSE does not hang on its TEXT", x.count(0), 1);
    }

    private static void person() {
        c.in("12 person");
        HouseOfHours x = Check.built("pA7 kL9");
        told("KIND", x, x.person(1, 0), 3);
        told("ROOM", x, x.person(1, 1), 11);
        told("PACE", x, x.person(0, 2), 7);
        told("to which ROOMS", x, x.person(0, 4), 1 << 1 | 1 << 11);
        told("no STEPS yet", x, x.person(0, 5), 0);
        x.step(0, 11);
        told("DAYS below 0", x, x.person(0, 3), -1);
        told("a STEP", x, x.person(0, 5), 1);
        told("the other's STEPS", x, x.person(1, 5), 0);
        x.hour();
        told("an HOUR is no STEP", x, x.person(0, 5), 1);
        told("but a DAY", x, x.person(0, 3), 0);
        told("and ROOMS", x, x.person(0, 1), 6);
        c.due("person(2, 0)", x.person(2, 0), BAD);
        c.due("person(-1, 0)", x.person(-1, 0), BAD);
        c.due("person(0, 6)", x.person(0, 6), BAD);
        c.due("person(0, -1)", x.person(0, -1), BAD);
        c.due("asked()", x.asked(), 6);
    }

    private static void goes(String house, int rooms) {
        HouseOfHours x = Check.built(house);
        told("STEPS in " + house, x, x.person(0, 4), rooms);
    }

    private static void stepsOfKinds() {
        c.in("12 steps of kinds");
        int fifth = 1 << 5, sixth = 1 << 6, fourth = 1 << 4, tenth = 1 << 10, last = 1 << 11, first = 1, second = 2;
        goes("pF1", fourth | sixth);
        goes("sF1", fourth | sixth);
        goes("cF1", fourth);
        goes("kF1", fourth | sixth);
        goes("lF1", fourth | sixth);
        goes("nF1", fourth);
        goes("cG1", 1 << 7);
        goes("nG1", 1 << 7);
        goes("pL1", tenth | first);
        goes("cL1", tenth);
        goes("nL1", tenth | first);
        goes("cA1", second);
        goes("nA1", second | last);
        goes("kA1xAxL", second | last);
        goes("pA1xAxL", 0);
        goes("sA1xAxL", 0);
        goes("nA1xAxL", 0);
        goes("pA1xL", second);
        goes("pA1xA", last);
        goes("sA1tAF", second | last | fifth);
        goes("lA1tFA", second | last | fifth);
        goes("pA1tAF", second | last);
        goes("cA1tAF", second);
        goes("kA1tAF", second | last);
        goes("nA1tAF", second | last);
        goes("sA1xAtAB", second | last);
        goes("sA1xAxLtAFtEAtABtLA", second | fourth | fifth | last);
        goes("sA1tBF", second | last);
    }

    private static void door() {
        c.in("13 door");
        HouseOfHours x = Check.built("pA1 xD xL");
        for (int i = 0; i < 12; i++) {
            c.due("door(" + i + ")", x.door(i), i == 3 || i == 11 ? 1 : 0);
        }
        c.due("door(12)", x.door(12), BAD);
        c.due("door(-1)", x.door(-1), BAD);
        c.due("door(MAX)", x.door(MAX), BAD);
    }

    private static void mark() {
        c.in("14 mark");
        HouseOfHours x = Check.built("sC1lC2cC5kC4nC0pC6 tCAtCAtDEtFC xBxC");
        c.due("SERVANT: STAIRS", x.mark(0, 1), 3);
        c.due("LOVER as SERVANT", x.mark(1, 1), 3);
        c.due("LOVER: others", x.mark(1, 4), 5);
        c.due("CHILD", x.mark(2, 2), 2);
        c.due("SLEEPLESS as CHILD: never", x.mark(4, 2), NONE);
        c.due("CAT", x.mark(3, 3), 2);
        c.due("SLEEPLESS: shut in", x.mark(4, 5), 11);
        int[] kinds = {1, 4, 2, 3, 5, 0};
        boolean[][] is = {{true, false, false, false, false}, {true, false, false, true, false},
            {false, true, false, false, false}, {false, false, true, false, false},
            {false, true, false, false, true}, {false, false, false, false, false}};
        for (int p = 0; p < 6; p++) {
            for (int kind = 1; kind <= 5; kind++) {
                if (!is[p][kind - 1]) {
                    found("mark(" + p + " of KIND " + kinds[p] + ", " + kind + ")", x, x.mark(p, kind), 3);
                }
            }
        }
        c.due("mark(0, 0)", x.mark(0, 0), BAD);
        c.due("mark(0, 6)", x.mark(0, 6), BAD);
        c.due("mark(6, 1)", x.mark(6, 1), BAD);
        c.due("mark(-1, 1)", x.mark(-1, 1), BAD);
        c.due("asked() is not told", x.asked(), 0);
        c.due("CHILD in 12 HOURS", Check.built("cA1").mark(0, 2), 12);
        c.due("CHILD in 6", Check.built("cA2").mark(0, 2), 6);
        c.due("CHILD in 3, not just", Check.built("cA5").mark(0, 2), 3);
        c.due("CHILD at once", Check.built("cL1").mark(0, 2), 1);
        c.due("CAT of ROOM 0", Check.built("kA1xLxB").mark(0, 3), 1);
        c.due("CAT of ROOM 11", Check.built("kL1xLxK").mark(0, 3), 2);
        c.due("LOVER alone", Check.built("lA1pB1").mark(0, 4), 0);
        c.due("SERVANT without STAIRS", Check.built("sA1tBC").mark(0, 1), 0);
        c.due("SLEEPLESS: goes round", Check.built("nG1").mark(0, 5), 0);
        c.due("SLEEPLESS: to one side", Check.built("nG1xI").mark(0, 5), 9);
    }

    private static void pace() {
        c.in("15 pace");
        HouseOfHours x = Check.built("pA3pB0");
        c.due("pace(0, 9)", x.pace(0, 9), 3);
        c.due("pace(0, 0)", x.pace(0, 0), 9);
        c.due("pace(1, 4)", x.pace(1, 4), 0);
        told("PACE", x, x.person(1, 2), 4);
        c.due("pace(0, 10)", x.pace(0, 10), BAD);
        c.due("pace(0, -1)", x.pace(0, -1), BAD);
        c.due("pace(2, 0)", x.pace(2, 0), BAD);
        c.due("pace(-1, 0)", x.pace(-1, 0), BAD);
        c.due("hour()", x.hour(), 1);
        c.due("there are DEEDS", x.pace(1, 5), STATE);
        c.due("BAD is ahead", x.pace(1, 10), BAD);
        c.due("undo(0)", x.undo(0), 1);
        c.due("undone", x.pace(1, 5), 4);
        told("ROOM", x, x.person(1, 1), 1);
        c.due("pace() is no DEED", x.count(4), 0);
    }

    private static void step() {
        c.in("16 step");
        HouseOfHours x = Check.built("pA1sL2");
        c.due("back through DOOR 11", x.step(0, 11), 999);
        c.due("on through it", x.step(0, 0), 1000);
        c.due("on", x.step(1, 0), 1001);
        c.due("to itself", x.step(0, 0), STATE);
        c.due("two ROOMS on", x.step(0, 2), STATE);
        c.due("within the DAY", x.step(0, 1), 1000);
        c.due("count(4)", x.count(4), 4);
        c.due("step(2, 0)", x.step(2, 0), BAD);
        c.due("step(-1, 0)", x.step(-1, 0), BAD);
        c.due("step(0, 12)", x.step(0, 12), BAD);
        c.due("step(0, -1)", x.step(0, -1), BAD);
        c.due("asked() is not told", x.asked(), 0);
        HouseOfHours y = Check.built("sL1kL1lA1 xL tAL");
        c.due("by STAIRS, no DAY", y.step(0, 0), 1000);
        c.due("a CAT through the SHUT DOOR", y.step(1, 0), 1001);
        c.due("a LOVER by STAIRS back", y.step(2, 11), 1000);
        y.turn(11, 0);
        c.due("DOOR ahead of STAIR", y.step(0, 11), 999);
        c.due("DOOR ahead of STAIR, on", y.step(2, 0), 1001);
        HouseOfHours z = Check.built("pA0cB0");
        for (int i = 0; i < 40; i++) {
            c.due("STEP " + i, z.step(0, i % 2 == 0 ? 1 : 0), 1000);
        }
        c.due("40 DEEDS", z.step(0, 1), FULL);
        c.due("STATE is ahead of FULL", z.step(0, 2), STATE);
        c.due("BAD is ahead of STATE", z.step(0, 12), BAD);
        told("STEPS", z, z.person(0, 5), 40);
    }

    private static void hour() {
        c.in("17 hour");
        HouseOfHours x = made();
        c.due("no PERSONS", x.hour(), STATE);
        x = Check.built("pA9pL1pC0cF3 xA xF xL");
        c.due("hour()", x.hour(), 3);
        int[] rooms = {9, 0, 2, 8}, days = {0, 1, 0, 0};
        for (int p = 0; p < 4; p++) {
            told("ROOM of " + p, x, x.person(p, 1), rooms[p]);
            told("DAYS of " + p, x, x.person(p, 3), days[p]);
            told("STEPS of " + p, x, x.person(p, 5), 0);
        }
        c.due("the HOUR", x.count(3), 1);
        c.due("DEEDS", x.count(4), 1);
        for (int i = 1; i < 40; i++) {
            c.due("HOUR " + i, x.hour(), 3);
        }
        c.due("FULL", x.hour(), FULL);
        c.due("the HOUR", x.count(3), 40);
        told("DAYS behind 40 HOURS", x, x.person(0, 3), 30);
        c.due("nobody goes", Check.built("pA0").hour(), 0);
        HouseOfHours z = made();
        for (int i = 0; i < 40; i++) {
            z.turn(0, 1 - i % 2);
        }
        c.due("STATE ahead of FULL", z.hour(), STATE);
    }

    private static void turn() {
        c.in("18 turn");
        HouseOfHours x = made();
        c.due("turn(11, 1)", x.turn(11, 1), 1);
        c.due("turn(0, 1)", x.turn(0, 1), 2);
        c.due("it is so", x.turn(0, 1), STATE);
        c.due("it is open", x.turn(1, 0), STATE);
        c.due("turn(11, 0)", x.turn(11, 0), 1);
        c.due("door(11)", x.door(11), 0);
        c.due("door(0)", x.door(0), 1);
        c.due("turn(12, 1)", x.turn(12, 1), BAD);
        c.due("turn(-1, 1)", x.turn(-1, 1), BAD);
        c.due("turn(1, 2)", x.turn(1, 2), BAD);
        c.due("turn(1, -1)", x.turn(1, -1), BAD);
        c.due("DEEDS", x.count(4), 3);
        for (int i = 3; i < 40; i++) {
            x.turn(5, i % 2);
        }
        c.due("DEEDS", x.count(4), 40);
        c.due("FULL", x.turn(7, 1), FULL);
        c.due("STATE is ahead of FULL", x.turn(7, 0), STATE);
        c.due("door(7)", x.door(7), 0);
        Check.write(x, 0, "pA1");
        x.house(0);
        c.due("DOORS anew", x.count(2), 0);
    }

    private static void undo() {
        c.in("19 undo");
        HouseOfHours x = Check.built("pL9nA5sK1 xC tKB");
        long before = x.digest();
        c.due("none", x.undo(0), 0);
        c.due("step(0, 0)", x.step(0, 0), 1001);
        c.due("hour()", x.hour(), 3);
        long middle = x.digest();
        c.due("turn(2, 0)", x.turn(2, 0), 0);
        c.due("step(1, 4)", x.step(1, 4), 1000);
        c.due("hour()", x.hour(), 3);
        c.due("turn(9, 1)", x.turn(9, 1), 1);
        c.due("step(2, 11)", x.step(2, 11), 1000);
        c.due("DEEDS", x.count(4), 7);
        c.due("one too many", x.undo(8), BAD);
        c.due("below 0", x.undo(-1), BAD);
        c.due("from the end on", x.undo(7), 0);
        c.due("from 2 on", x.undo(2), 5);
        c.due("as it was", x.digest(), middle);
        c.due("DEEDS", x.count(4), 2);
        c.due("the HOUR", x.count(3), 1);
        told("STEPS stay", x, x.person(0, 5), 1);
        c.due("all", x.undo(0), 2);
        c.due("as it was at first", x.digest(), before);
        told("STEPS are undone", x, x.person(0, 5), 0);
        told("DAYS are undone", x, x.person(0, 3), 0);
        c.due("door(2)", x.door(2), 1);
        x.step(1, 11);
        x.undo(0);
        told("DAYS below 0 are undone", x, x.person(1, 3), 0);
        HouseOfHours y = made();
        y.turn(4, 1);
        c.due("without PERSONS", y.undo(0), 1);
        c.due("door(4)", y.door(4), 0);
    }

    private static void keep() {
        c.in("20 keep");
        HouseOfHours x = made();
        c.due("no PERSONS", x.keep(0), STATE);
        c.due("keep(3)", x.keep(3), BAD);
        c.due("keep(-1)", x.keep(-1), BAD);
        x = Check.built("pA1");
        c.due("keep(0)", x.keep(0), 0);
        x.hour();
        c.due("keep(2)", x.keep(2), 1);
        c.due("count(8)", x.count(8), 2);
        c.due("keep(0) again", x.keep(0), 1);
        c.due("count(8)", x.count(8), 2);
        c.due("DEEDS stay", x.count(4), 1);
        c.due("on(0) as kept last", x.on(0), 1);
    }

    private static void on() {
        c.in("21 on");
        HouseOfHours x = Check.built("pL2cB3 xD");
        x.pace(0, 4);
        x.step(0, 0);
        x.hour();
        x.keep(1);
        long kept = x.digest();
        x.turn(3, 0);
        x.step(0, 5);
        x.hour();
        x.undo(1);
        x.undo(0);
        x.pace(0, 9);
        c.due("on(1)", x.on(1), 2);
        c.due("as it was kept", x.digest(), kept);
        told("PACE", x, x.person(0, 2), 4);
        told("ROOM", x, x.person(0, 1), 4);
        told("DAYS", x, x.person(0, 3), 1);
        told("STEPS", x, x.person(0, 5), 1);
        c.due("door(3)", x.door(3), 1);
        c.due("the kept HOUSE's DEEDS can be undone", x.undo(1), 1);
        told("ROOM then", x, x.person(0, 1), 0);
        c.due("it stays kept as it was", x.on(1), 2);
        told("ROOM again", x, x.person(0, 1), 4);
        c.due("undo(0)", x.undo(0), 2);
        c.due("other DEEDS", x.turn(7, 1), 2);
        c.due("other DEEDS", x.step(1, 2), 1000);
        c.due("on(1)", x.on(1), 2);
        c.due("the DEEDS as kept", x.undo(1), 1);
        told("ROOM by these", x, x.person(0, 1), 0);
        told("the HOUR was undone", x, x.person(1, 1), 1);
        c.due("the DEEDS as kept", x.undo(0), 1);
        told("ROOM by these", x, x.person(0, 1), 11);
        told("DAYS by these", x, x.person(0, 3), 0);
        c.due("door(7)", x.door(7), 0);
        found("on(0)", x, x.on(0), 1);
        c.due("on(3)", x.on(3), BAD);
        c.due("on(-1)", x.on(-1), BAD);
        c.due("count(8)", x.count(8), 1);
    }

    private static void way() {
        c.in("22 way");
        HouseOfHours x = Check.built("pA1cE1sC1kG1 xI tCKtCI");
        c.due("to itself", x.way(0, 0, 0), 0);
        holds("to itself", x, 0, 0);
        c.due("on", x.way(0, 3, 0), 3);
        holds("on", x, 0, 0, 1, 2, 3);
        c.due("back", x.way(0, 10, 5), 2);
        holds("back", x, 5, 0, 11, 10);
        c.due("the long way, as a DOOR is SHUT", x.way(0, 8, 0), 8);
        holds("the long way", x, 0, 0, 1, 2, 3, 4, 5, 6, 7, 8);
        c.due("by STAIRS", x.way(2, 9, 1), 2);
        holds("by STAIRS", x, 1, 2, 10, 9);
        c.due("a CAT, first by numbers", x.way(3, 0, 1), 6);
        holds("a CAT", x, 1, 6, 5, 4, 3, 2, 1, 0);
        c.due("a CHILD can't", x.way(1, 6, 1), NONE);
        holds("NONE leaves the ROW", x, 1, 6, 5, 4, 3, 2, 1, 0);
        c.due("nor makes one", x.way(1, 6, 4), NONE);
        c.due("count(6)", x.count(6), 3);
        c.due("way(4, ..)", x.way(4, 0, 0), BAD);
        c.due("way(-1, ..)", x.way(-1, 0, 0), BAD);
        c.due("way(.., 12, ..)", x.way(0, 12, 0), BAD);
        c.due("way(.., -1, ..)", x.way(0, -1, 0), BAD);
        c.due("way(.., 6)", x.way(0, 0, 6), BAD);
        c.due("way(.., -1)", x.way(0, 0, -1), BAD);
        c.due("BAD ahead of NONE", x.way(1, 6, 6), BAD);
        HouseOfHours y = Check.built("sA1 xAxL tAJtADtJGtDG");
        c.due("first by numbers at a fork", y.way(0, 6, 0), 2);
        holds("fork", y, 0, 0, 3, 6);
        y = Check.built("sG1 tGCtGJtCLtJL");
        c.due("first by numbers from behind", y.way(0, 11, 0), 2);
        holds("fork from behind", y, 0, 6, 2, 11);
    }

    private static void within() {
        c.in("23 within");
        HouseOfHours x = Check.built("pA1cC1sD1nG1 xH tDK");
        c.due("within(0, 0)", x.within(0, 0), 1);
        c.due("within(0, 1)", x.within(0, 1), 1 | 2 | 1 << 11);
        c.due("within(0, 12)", x.within(0, 12), 4095);
        c.due("within(1, 12)", x.within(1, 12), 63);
        c.due("within(1, 1)", x.within(1, 1), 2 | 4 | 8);
        c.due("within(2, 2)", x.within(2, 2), 2 | 4 | 8 | 16 | 32 | 1 << 9 | 1 << 10 | 1 << 11);
        c.due("within(3, 12)", x.within(3, 12), 1 << 6 | 1 << 7);
        c.due("eleven STEPS are needed", Check.built("pA1xL").within(0, 10), 2047);
        c.due("and enough", Check.built("pA1xL").within(0, 11), 4095);
        c.due("within(0, 13)", x.within(0, 13), BAD);
        c.due("within(0, -1)", x.within(0, -1), BAD);
        c.due("within(4, 1)", x.within(4, 1), BAD);
        c.due("within(-1, 1)", x.within(-1, 1), BAD);
    }

    private static void errands() {
        c.in("24 errands");
        HouseOfHours x = Check.built("pA1cB1sL1 tDJ");
        Check.fill(x, 0, 3, 10, 10, 0);
        c.due("in this order", x.errands(0, 0), 3 + 5 + 0 + 2);
        c.due("by STAIRS too", x.errands(2, 0), 3 + 2 + 0 + 2);
        c.due("a CHILD can't", x.errands(1, 0), NONE);
        Check.fill(x, 0, 2, 7);
        c.due("it does not go home", x.errands(0, 0), 7);
        Check.fill(x, 0);
        c.due("none", x.errands(0, 0), 0);
        Check.fill(x, 0, 6, 0, 6, 0, 6, 0, 6, 0);
        c.due("eight", x.errands(0, 0), 48);
        Check.fill(x, 0, 6, 0, 6, 0, 6, 0, 6, 0, 99);
        found("nine: SIZE ahead of UNLIKE", x, x.errands(0, 0), 5);
        Check.fill(x, 0, 6, 12);
        found("UNLIKE ahead of NONE", x, x.errands(1, 0), 3);
        Check.fill(x, 0, -1);
        found("UNLIKE", x, x.errands(0, 0), 3);
        found("NOTHING", x, x.errands(0, 3), 1);
        c.due("errands(3, ..)", x.errands(3, 0), BAD);
        c.due("errands(-1, ..)", x.errands(-1, 0), BAD);
        c.due("errands(.., 6)", x.errands(0, 6), BAD);
        c.due("errands(.., -1)", x.errands(0, -1), BAD);
        told("the ROW stays", x, x.at(0, 0), -1);
    }

    private static void best() {
        c.in("25 best");
        HouseOfHours x = Check.built("pA1cB1sL1 tDJ");
        Check.fill(x, 0, 3, 10, 1);
        c.due("whatever order", x.best(0, 0, 1), 7);
        holds("order", x, 1, 1, 2, 0);
        holds("the errands stay", x, 0, 3, 10, 1);
        c.due("a CHILD can't", x.best(1, 0, 1), NONE);
        holds("NONE leaves the ROW", x, 1, 1, 2, 0);
        Check.fill(x, 0, 1, 11);
        c.due("the first of two", x.best(0, 0, 2), 3);
        holds("the first of two", x, 2, 0, 1);
        Check.fill(x, 0, 2, 0);
        c.due("here too", x.best(0, 0, 2), 2);
        holds("here too", x, 2, 1, 0);
        Check.fill(x, 0, 4, 4, 4);
        c.due("the same", x.best(0, 0, 0), 4);
        holds("to the same ROW", x, 0, 0, 1, 2);
        Check.fill(x, 0);
        c.due("none", x.best(0, 0, 4), 0);
        holds("none", x, 4);
        c.due("count(6)", x.count(6), 4);
        Check.fill(x, 0, 1, 3, 5, 6, 4, 2);
        c.due("six", x.best(0, 0, 1), 6);
        holds("six", x, 1, 0, 5, 1, 4, 2, 3);
        Check.fill(x, 0, 0, 0, 0, 0, 0, 0, 99);
        found("seven: SIZE ahead of UNLIKE", x, x.best(0, 0, 1), 5);
        Check.fill(x, 0, 6, 12);
        found("UNLIKE ahead of NONE", x, x.best(1, 0, 1), 3);
        Check.fill(x, 0, -1);
        found("UNLIKE", x, x.best(0, 0, 1), 3);
        found("NOTHING", x, x.best(0, 3, 1), 1);
        holds("refusals leave the ROW", x, 1, 0, 5, 1, 4, 2, 3);
        c.due("best(3, ..)", x.best(3, 0, 1), BAD);
        c.due("best(-1, ..)", x.best(-1, 0, 1), BAD);
        c.due("best(.., 6, ..)", x.best(0, 6, 1), BAD);
        c.due("best(.., -1)", x.best(0, 0, -1), BAD);
        c.due("best(.., 6)", x.best(0, 3, 6), BAD);
    }

    private static void middle() {
        c.in("26 middle");
        HouseOfHours x = Check.built("pA1pE1cH1sG1kG2 tGA");
        c.due("middle(0, 1)", x.middle(0, 1), 0);
        c.due("asked()", x.asked(), 4);
        c.due("middle(1, 0)", x.middle(1, 0), 0);
        c.due("by STAIRS", x.middle(3, 0), 0);
        c.due("asked()", x.asked(), 1);
        c.due("a CHILD stays behind its DOORS", x.middle(2, 0), 7);
        c.due("asked()", x.asked(), 5);
        c.due("in one ROOM", x.middle(3, 4), 6);
        c.due("asked()", x.asked(), 0);
        c.due("the same", x.middle(1, 1), BAD);
        c.due("middle(5, 0)", x.middle(5, 0), BAD);
        c.due("middle(0, 5)", x.middle(0, 5), BAD);
        c.due("middle(-1, 0)", x.middle(-1, 0), BAD);
        c.due("middle(0, -1)", x.middle(0, -1), BAD);
        HouseOfHours y = Check.built("pC1cI1 xBxFxL");
        y.later(0, 0);
        c.due("none", y.middle(0, 1), NONE);
        c.due("NONE does not tell", y.asked(), 1000);
    }

    private static void bar() {
        c.in("27 bar");
        HouseOfHours x = Check.built("pC1cC1sC1kC1nL1lB1 xE tCHtBI");
        c.due("on one side a DOOR is SHUT", x.bar(0, 0), 1);
        c.due("the least", x.asked(), 1);
        c.due("the least of those between", x.bar(0, 10), 1);
        c.due("asked()", x.asked(), 1);
        c.due("a CHILD is shut in already", x.bar(1, 6), 0);
        c.due("asked()", x.asked(), 0);
        c.due("a CHILD", x.bar(1, 3), 1);
        c.due("asked()", x.asked(), 4);
        c.due("a SERVANT: the STAIRS lead to H", x.bar(2, 7), NONE);
        c.due("NONE does not tell", x.asked(), 4);
        c.due("a SERVANT, both ends of STAIRS", x.bar(2, 6), 1);
        c.due("asked()", x.asked(), 64);
        c.due("a CAT", x.bar(3, 0), NONE);
        c.due("SLEEPLESS", x.bar(4, 0), 1);
        c.due("asked()", x.asked(), 1 << 11);
        c.due("its own ROOM", x.bar(0, 2), BAD);
        c.due("bar(6, 0)", x.bar(6, 0), BAD);
        c.due("bar(-1, 0)", x.bar(-1, 0), BAD);
        c.due("bar(0, 12)", x.bar(0, 12), BAD);
        c.due("bar(0, -1)", x.bar(0, -1), BAD);
        HouseOfHours y = Check.built("pG1");
        c.due("both sides", y.bar(0, 0), 2);
        c.due("the least", y.asked(), 1 | 1 << 6);
        c.due("nothing is done", y.count(2), 0);
        c.due("next to it", y.bar(0, 7), 2);
        c.due("the least", y.asked(), 1 | 1 << 6);
        HouseOfHours z = Check.built("sA1 tADtDGtBJtJE");
        c.due("three ROOMS of its own by STAIRS", z.bar(0, 1), 6);
        c.due("the least six", z.asked(), 1 | 1 << 1 | 1 << 3 | 1 << 4 | 1 << 6 | 1 << 9);
    }

    private static void parts() {
        c.in("28 parts");
        HouseOfHours x = Check.built("pA1sA1cA1kA1lA1nA1 xBxDxH tCG");
        c.due("a PERSON", x.parts(0), 3);
        c.due("a SERVANT", x.parts(1), 2);
        c.due("a CHILD", x.parts(2), 5);
        c.due("a CAT", x.parts(3), 1);
        c.due("a LOVER", x.parts(4), 2);
        c.due("SLEEPLESS", x.parts(5), 4);
        c.due("one SHUT DOOR", Check.built("pA1xC").parts(0), 1);
        c.due("all SHUT", Check.built("pA1xAxBxCxDxExFxGxHxIxJxKxL").parts(0), 12);
        c.due("all SHUT, by STAIRS", Check.built("sA1xAxBxCxDxExFxGxHxIxJxKxLtABtBCtCDtDA").parts(0), 9);
        c.due("parts(6)", x.parts(6), BAD);
        c.due("parts(-1)", x.parts(-1), BAD);
    }

    private static void later() {
        c.in("29 later");
        HouseOfHours x = Check.built("pL9pC0pA1 xA");
        c.due("later(0, 0)", x.later(0, 0), 11);
        c.due("asked()", x.asked(), 1000);
        c.due("later(0, 1)", x.later(0, 1), 8);
        c.due("asked()", x.asked(), 1001);
        c.due("later(0, 999)", x.later(0, 999), (11 + 8991) % 12);
        c.due("asked()", x.asked(), 1000 + (11 + 8991) / 12);
        c.due("later(1, 999)", x.later(1, 999), 2);
        c.due("asked()", x.asked(), 1000);
        x.step(2, 11);
        c.due("from DAYS below 0", x.later(2, 0), 11);
        c.due("asked()", x.asked(), 999);
        c.due("from DAYS below 0", x.later(2, 13), 0);
        c.due("asked()", x.asked(), 1001);
        c.due("nothing is done", x.count(3), 0);
        c.due("later(0, 1000)", x.later(0, 1000), BAD);
        c.due("later(0, -1)", x.later(0, -1), BAD);
        c.due("later(3, 0)", x.later(3, 0), BAD);
        c.due("later(-1, 0)", x.later(-1, 0), BAD);
        c.due("asked()", x.asked(), 1001);
    }

    private static void when() {
        c.in("30 when");
        HouseOfHours x = Check.built("pC5pC8pC0");
        c.due("now", x.when(0, 2), 0);
        c.due("last of all", x.when(0, 9), 11);
        c.due("by 8", x.when(1, 6), 2);
        c.due("by 8, never", x.when(1, 3), NONE);
        c.due("stays", x.when(2, 3), NONE);
        c.due("when(3, 0)", x.when(3, 0), BAD);
        c.due("when(-1, 0)", x.when(-1, 0), BAD);
        c.due("when(0, 12)", x.when(0, 12), BAD);
        c.due("when(0, -1)", x.when(0, -1), BAD);
        c.due("asked() is not told", x.asked(), 0);
    }

    private static void meet() {
        c.in("31 meet");
        HouseOfHours x = Check.built("pA1pB0pA3pB2pA9");
        c.due("meet(0, 1)", x.meet(0, 1), 1);
        c.due("asked()", x.asked(), 1);
        c.due("now", x.meet(0, 2), 0);
        c.due("asked()", x.asked(), 0);
        c.due("by 1 less: behind 11", x.meet(3, 0), 11);
        c.due("asked()", x.asked(), 11);
        c.due("now, elsewhere", x.meet(1, 3), 0);
        c.due("asked()", x.asked(), 1);
        c.due("by 3, never", x.meet(2, 1), NONE);
        c.due("NONE does not tell", x.asked(), 1);
        c.due("the same", x.meet(1, 1), BAD);
        c.due("meet(5, 0)", x.meet(5, 0), BAD);
        c.due("meet(0, 5)", x.meet(0, 5), BAD);
        c.due("meet(-1, 0)", x.meet(-1, 0), BAD);
        c.due("meet(0, -1)", x.meet(0, -1), BAD);
    }

    private static void crowd() {
        c.in("32 crowd");
        c.due("no PERSONS", made().crowd(), STATE);
        HouseOfHours x = Check.built("pA1pC0pD9pL3");
        // Behind 0: 0 2 3 11; behind 1: 1 2 0 2; behind 2: 2 2 9 5; behind 3: 3 2 6 8.
        c.due("the first", x.crowd(), 1);
        c.due("asked()", x.asked(), 2);
        x = Check.built("pA0pA0pB1pB1pC2pD3");
        // Each one's ROOM is its PACE: behind 11 HOURS it has gone 12 times that, to ROOM 0.
        c.due("all meet", x.crowd(), 11);
        c.due("asked()", x.asked(), 6);
        x = Check.built("pE7");
        c.due("alone", x.crowd(), 0);
        c.due("asked()", x.asked(), 1);
    }

    private static void change() {
        c.in("33 change");
        HouseOfHours x = Check.built("pA3pB3pB5pB0pA9pD6");
        c.due("meet(0, 1) never", x.meet(0, 1), NONE);
        c.due("by one", x.change(0, 1), 1);
        c.due("the less of 2 and 4", x.asked(), 2);
        c.due("by two", x.change(0, 3), 2);
        c.due("the less of 1 and 5", x.asked(), 1);
        c.due("only up from 0", x.change(3, 0), 2);
        c.due("asked()", x.asked(), 2);
        c.due("they do", x.change(4, 5), 0);
        c.due("as it is", x.asked(), 9);
        HouseOfHours y = Check.built("pA9pB9pA4pB5pB6");
        c.due("only down from 9", y.change(0, 1), 1);
        c.due("asked()", y.asked(), 8);
        c.due("by three", y.change(0, 3), 3);
        c.due("asked()", y.asked(), 6);
        c.due("3 would not do", y.change(2, 4), 1);
        c.due("the greater of 3 and 5", y.asked(), 5);
        HouseOfHours z = Check.built("pA1pF1");
        c.due("to stay", z.change(0, 1), 1);
        c.due("asked()", z.asked(), 0);
        c.due("the same", x.change(1, 1), BAD);
        c.due("change(6, 0)", x.change(6, 0), BAD);
        c.due("change(0, 6)", x.change(0, 6), BAD);
        c.due("change(-1, 0)", x.change(-1, 0), BAD);
        c.due("change(0, -1)", x.change(0, -1), BAD);
        told("nothing is done", x, x.person(0, 2), 3);
    }

    private static void round() {
        c.in("34 round");
        c.due("no PERSONS", made().round(), STATE);
        c.due("none goes", Check.built("pA0pB0").round(), 1);
        c.due("by 6", Check.built("pA6pB0").round(), 2);
        c.due("by 4", Check.built("pA4").round(), 3);
        c.due("by 8", Check.built("pA8").round(), 3);
        c.due("by 3", Check.built("pB3").round(), 4);
        c.due("by 9", Check.built("pB9").round(), 4);
        c.due("by 2", Check.built("pL2").round(), 6);
        c.due("by 6 and 4", Check.built("pA6pB4").round(), 6);
        c.due("by 3 and 4", Check.built("pA3pB4").round(), 12);
        c.due("by 5", Check.built("pA0pB5").round(), 12);
        c.due("by 7", Check.built("pA7").round(), 12);
        HouseOfHours x = Check.built("pA0pB0pC0pD6pE6pF6");
        c.due("all six", x.round(), 2);
        Check.write(x, 3, "pA0pB0");
        x.house(3);
        c.due("those who went don't count", x.round(), 1);
    }

    private static void paces() {
        c.in("35 paces");
        HouseOfHours x = made();
        c.due("no HOURS", x.paces(11, 0, 0), 1023);
        c.due("no HOURS, a DAY", x.paces(11, 0, 1), 0);
        c.due("from 11 on", x.paces(11, 1, 1), 1022);
        c.due("stays", x.paces(11, 1, 0), 1);
        c.due("12 HOURS", x.paces(5, 12, 9), 512);
        c.due("7 HOURS from 4", x.paces(4, 7, 2), 1 << 3 | 1 << 4);
        c.due("999", x.paces(11, 999, 750), 512);
        c.due("999, 999", x.paces(11, 999, 999), 0);
        c.due("paces(12, ..)", x.paces(12, 0, 0), BAD);
        c.due("paces(-1, ..)", x.paces(-1, 0, 0), BAD);
        c.due("paces(.., 1000, ..)", x.paces(0, 1000, 0), BAD);
        c.due("paces(.., -1, ..)", x.paces(0, -1, 0), BAD);
        c.due("paces(.., 1000)", x.paces(0, 0, 1000), BAD);
        c.due("paces(.., -1)", x.paces(0, 0, -1), BAD);
    }

    private static void ages() {
        c.in("36 ages");
        HouseOfHours x = Check.built("pA1pA2pA3");
        Check.fill(x, 0, 3, 1, 2);
        chance("behind 12 HOURS", x, x.ages(0, 12), 1, 1);
        c.due("the order 2, 0, 1", x.asked(), 2 * 36 + 0 * 6 + 1);
        Check.fill(x, 0, 0, 0, 0);
        chance("now", x, x.ages(0, 0), 6, 1);
        c.due("the order 0, 1, 2", x.asked(), 8);
        x.odds(0, 1, 1);
        c.due("lower()", x.lower(), 2);
        Check.fill(x, 0, 1, 1, 2);
        chance("none", x, x.ages(0, 12), 0, 1);
        c.due("NONE by asked()", x.asked(), NONE);
        Check.fill(x, 0, -1, 1, 2);
        chance("below 0", x, x.ages(0, 12), 0, 1);
        HouseOfHours y = Check.built("pA1pB1pL5pL4pA1pB1");
        // Behind 11 HOURS: 0, 1, 5, 4, 0, 1 DAYS.
        Check.fill(y, 2, 1, 0, 1, 4, 5, 0);
        chance("two by two", y, y.ages(2, 11), 4, 1);
        c.due("the order 1, 0, 5, 3, 2, 4", y.asked(), ((((1 * 6 + 0) * 6 + 5) * 6 + 3) * 6 + 2) * 6 + 4);
        y.hour();
        y.step(0, 2);
        // Two of them are a DAY older already.
        Check.fill(y, 2, 0, 0, 0, 0, 0, 0);
        chance("older than now, not than at first", y, y.ages(2, 0), 720, 1);
        HouseOfHours z = Check.built("pL9");
        Check.fill(z, 0, 750);
        chance("behind 999 HOURS", z, z.ages(0, 999), 1, 1);
        c.due("ages(6, ..)", y.ages(6, 0), BAD);
        c.due("ages(-1, ..)", y.ages(-1, 0), BAD);
        c.due("ages(.., 1000)", y.ages(2, 1000), BAD);
        c.due("ages(.., -1)", y.ages(2, -1), BAD);
        found("NOTHING", y, y.ages(3, 0), 1);
        y.row(2, 5);
        found("SIZE: fewer", y, y.ages(2, 0), 5);
        y.row(2, 7);
        found("SIZE: more", y, y.ages(2, 0), 5);
        c.due("STATE ahead of NOTHING", made().ages(0, 0), STATE);
        c.due("BAD ahead of STATE", made().ages(0, 1000), BAD);
        chance("refusals tell nothing", y, 1, 720, 1);
    }

    private static void odds() {
        c.in("37 odds");
        HouseOfHours x = Check.built("pA1sA1cA1kA1nA1 xBxL tAGtAFtEAtHA");
        chance("here", x, x.odds(0, 0, 0), 1, 1);
        chance("elsewhere", x, x.odds(0, 1, 0), 0, 1);
        chance("one way", x, x.odds(0, 1, 1), 1, 1);
        chance("to and fro", x, x.odds(0, 0, 8), 1, 1);
        chance("one of five", x, x.odds(1, 6, 1), 1, 5);
        chance("back from one of five", x, x.odds(1, 0, 2), 7, 15);
        chance("a CAT", x, x.odds(3, 2, 2), 1, 4);
        chance("a CAT behind 8", x, x.odds(3, 0, 8), 35, 128);
        chance("odd", x, x.odds(3, 1, 8), 0, 1);
        chance("SLEEPLESS", x, x.odds(4, 1, 7), 1, 1);
        HouseOfHours y = Check.built("pA1xAxL");
        chance("it can't", y, y.odds(0, 0, 5), 1, 1);
        chance("nor to another one", y, y.odds(0, 1, 5), 0, 1);
        HouseOfHours z = Check.built("sA1tACtADtAEtAG");
        chance("one of six", z, z.odds(0, 2, 1), 1, 6);
        HouseOfHours w = Check.built("sA1tABtAB");
        chance("DOOR and STAIRS to one ROOM", w, w.odds(0, 1, 1), 1, 2);
        c.due("odds(5, ..)", x.odds(5, 0, 0), BAD);
        c.due("odds(-1, ..)", x.odds(-1, 0, 0), BAD);
        c.due("odds(.., 12, ..)", x.odds(0, 12, 0), BAD);
        c.due("odds(.., -1, ..)", x.odds(0, -1, 0), BAD);
        c.due("odds(.., 9)", x.odds(0, 0, 9), BAD);
        c.due("odds(.., -1)", x.odds(0, 0, -1), BAD);
        c.due("asked() is not told", x.asked(), 0);
    }

    /** What lots() is told to do, by step() and hour(). */
    private static int byHand(HouseOfHours x, int n, int seed) {
        long lot = seed;
        int persons = x.count(0);
        for (int i = 0; i < n; i++) {
            lot = lot * 48271 % 2147483647;
            int who = (int) (lot % persons);
            x.person(who, 4);
            int rooms = x.asked();
            int many = Integer.bitCount(rooms);
            if (many == 0) {
                x.hour();
                continue;
            }
            for (long ahead = lot / 16 % many; ahead > 0; ahead--) {
                rooms &= rooms - 1;
            }
            x.step(who, Integer.numberOfTrailingZeros(rooms));
        }
        int there = 0;
        for (int p = 0; p < persons; p++) {
            x.person(p, 1);
            there += x.asked() == 0 ? 1 : 0;
        }
        return there;
    }

    private static void lots() {
        c.in("38 lots");
        // 48271 and then 182605794: PERSON 1 at 3016 by 3, then PERSON 0 at 11412862 by 2.
        HouseOfHours x = Check.built("pA1sC1tCF");
        c.due("lots(2, 1)", x.lots(2, 1), 0);
        told("PERSON 1 to the second of B, D, F", x, x.person(1, 1), 3);
        told("PERSON 0 to the first of B, L", x, x.person(0, 1), 1);
        told("truly", x, x.person(0, 5), 1);
        c.due("DEEDS", x.count(4), 2);
        c.due("no HOURS", x.count(3), 0);
        HouseOfHours y = Check.built("pA1 xAxL");
        c.due("an HOUR instead", y.lots(1, 7), 0);
        c.due("the HOUR", y.count(3), 1);
        told("no STEP", y, y.person(0, 5), 0);
        String[] houses = {"pA1", "pA1sB2cC3kD4lE5nF6 xBxE tAGtBH", "nA9nL9cG7 xAxFxG", "lA0lB0 tALtLKtBC"};
        int[] seeds = {1, 2, 77, 31337, 1000003, 2147483646};
        for (String signs : houses) {
            for (int seed : seeds) {
                HouseOfHours one = Check.built(signs), other = Check.built(signs);
                String call = signs + " lots(20, " + seed + ")";
                c.due(call, one.lots(20, seed), byHand(other, 20, seed));
                c.due(call + " again", one.lots(20, seed), byHand(other, 20, seed));
                c.due(call + ", digest()", one.digest(), other.digest());
                c.due(call + ", undo(3)", one.undo(3), other.undo(3));
                c.due(call + ", digest()", one.digest(), other.digest());
            }
        }
        c.due("lots(0, 1)", x.lots(0, 1), BAD);
        c.due("lots(21, 1)", x.lots(21, 1), BAD);
        c.due("lots(1, 0)", x.lots(1, 0), BAD);
        c.due("lots(1, -1)", x.lots(1, -1), BAD);
        c.due("lots(1, MAX)", x.lots(1, MAX), BAD);
        c.due("no PERSONS", made().lots(1, 1), STATE);
        c.due("BAD ahead of STATE", made().lots(0, 1), BAD);
        c.due("lots(20, 5)", x.lots(20, 5) < 0 ? 1 : 0, 0);
        long before = x.digest();
        c.due("one more than 40", x.lots(19, 5), FULL);
        c.due("nothing is done", x.digest(), before);
        c.due("just 40", x.lots(18, 5) < 0 ? 1 : 0, 0);
        c.due("DEEDS", x.count(4), 40);
        HouseOfHours z = made();
        for (int i = 0; i < 40; i++) {
            z.turn(0, 1 - i % 2);
        }
        c.due("STATE ahead of FULL", z.lots(1, 1), STATE);
    }

    private static void asked() {
        c.in("39 asked");
        HouseOfHours x = Check.built("pC2pD1");
        c.due("asked()", x.asked(), 0);
        Check.fill(x, 0, 8, 4);
        x.lay(0, 0, 6);
        c.due("lay()", x.asked(), 8);
        x.at(0, 1);
        c.due("at()", x.asked(), 4);
        x.mean(0);
        c.due("mean()", x.asked(), 5);
        x.person(0, 1);
        c.due("person()", x.asked(), 2);
        x.middle(0, 1);
        c.due("middle()", x.asked(), 1);
        x.bar(0, 3);
        c.due("bar()", x.asked(), 1 | 1 << 2);
        x.later(0, 5);
        c.due("later()", x.asked(), 1001);
        x.meet(0, 1);
        c.due("meet()", x.asked(), 4);
        x.crowd();
        c.due("crowd()", x.asked(), 2);
        x.change(1, 0);
        c.due("change()", x.asked(), 1);
        x.row(1, 2);
        x.ages(1, 0);
        c.due("ages()", x.asked(), 1);
        x.at(0, 1);
        x.way(0, 5, 2);
        x.within(0, 3);
        x.errands(0, 0);
        x.best(0, 0, 3);
        x.parts(0);
        x.when(0, 8);
        x.round();
        x.paces(1, 1, 0);
        x.odds(0, 3, 1);
        x.count(0);
        x.digest();
        x.door(1);
        x.step(0, 3);
        x.hour();
        x.turn(3, 1);
        x.undo(0);
        x.keep(0);
        x.on(0);
        x.lots(1, 1);
        x.copy(0, 0, 1, 0, 1);
        x.tear(1);
        c.due("other calls don't tell", x.asked(), 4);
        x.at(0, 2);
        x.person(9, 1);
        x.mean(5);
        x.later(0, 1000);
        x.ages(4, 0);
        x.meet(0, 0);
        c.due("refused calls don't tell", x.asked(), 4);
    }

    private static void upperAndLower() {
        c.in("40 upper, 41 lower");
        HouseOfHours x = Check.built("pC2");
        c.due("upper() before", x.upper(), 0);
        c.due("lower() before", x.lower(), 1);
        x.odds(0, 3, 1);
        c.due("upper()", x.upper(), 1);
        c.due("lower()", x.lower(), 2);
        x.odds(0, 12, 1);
        x.odds(0, 3, 9);
        x.ages(0, 1);
        c.due("refused: upper()", x.upper(), 1);
        c.due("refused: lower()", x.lower(), 2);
        Check.write(x, 0, "pA1");
        x.house(0);
        c.due("a new HOUSE: upper()", x.upper(), 1);
        c.due("a new HOUSE: lower()", x.lower(), 2);
        x.row(0, 1);
        x.lay(0, 0, 7);
        x.ages(0, 1);
        c.due("ages(), none: upper()", x.upper(), 0);
        c.due("ages(), none: lower()", x.lower(), 1);
    }

    private static void count() {
        c.in("42 count");
        HouseOfHours x = Check.built("pA1sB1lC1lD1cE1 tABtAC xAxBxC");
        x.hour();
        x.hour();
        x.turn(5, 1);
        x.row(0, 0);
        x.row(1, 1);
        x.row(5, 40);
        x.tear(1);
        x.text(0, 0);
        x.keep(1);
        int[] want = {5, 2, 4, 2, 3, 3, 2, 2, 1};
        for (int what = 0; what <= 8; what++) {
            c.due("count(" + what + ")", x.count(what), want[what]);
        }
        c.due("count(9)", x.count(9), BAD);
        c.due("count(-1)", x.count(-1), BAD);
        c.due("count(MIN)", x.count(MIN), BAD);
    }

    private static void finding() {
        c.in("43 finding");
        HouseOfHours x = Check.built("pA1");
        c.due("before any", x.finding(), 0);
        x.row(6, -1);
        x.step(0, 5);
        x.when(0, 12);
        c.due("BAD, STATE are none", x.finding(), 0);
        x.tear(0);
        c.due("NOTHING", x.finding(), 1);
        x.row(0, 0);
        x.at(0, 0);
        c.due("BEYOND", x.finding(), 2);
        x.mark(0, 1);
        c.due("UNLIKE", x.finding(), 3);
        x.mean(0);
        c.due("NOUGHT", x.finding(), 4);
        x.row(0, -1);
        c.due("SIZE", x.finding(), 5);
        x.row(0, 2);
        x.at(0, 1);
        x.row(6, 1);
        c.due("stays", x.finding(), 5);
        x.on(0);
        c.due("the latest", x.finding(), 1);
    }

    private static void findings() {
        c.in("44 findings");
        HouseOfHours x = Check.built("pA1");
        for (int f = 1; f <= 5; f++) {
            for (int i = 0; i < f; i++) {
                x.row(0, 0);
                if (f == 1) {
                    x.tear(1);
                } else if (f == 2) {
                    x.lay(0, 0, 0);
                } else if (f == 3) {
                    x.mark(0, 4);
                } else if (f == 4) {
                    x.mean(0);
                } else {
                    x.text(0, -1);
                }
            }
        }
        for (int f = 1; f <= 5; f++) {
            c.due("findings(" + f + ")", x.findings(f), f);
        }
        c.due("findings(0)", x.findings(0), BAD);
        c.due("findings(6)", x.findings(6), BAD);
        c.due("findings(MIN)", x.findings(MIN), BAD);
        Check.write(x, 0, "pA1");
        x.house(0);
        c.due("a new HOUSE", x.findings(5), 5);
    }

    private static long fold(long h, long... values) {
        for (long v : values) {
            h = 31 * h + v;
        }
        return h;
    }

    private static void digest() {
        c.in("45 digest");
        long h = fold(17, 0, 0, 0, 0, 0, 0, 0, 0, 0);
        h = fold(h, -1, -1, -1);
        h = fold(h, -1, -1, -1, -1, -1, -1);
        h = fold(h, -1, -1, -1, -1);
        c.due("at first", made().digest(), h);
        HouseOfHours x = made();
        Check.write(x, 1, "sA2tABxB");
        x.house(1);
        x.keep(2);
        x.step(0, 11);
        x.keep(0);
        Check.fill(x, 3, -5, MAX);
        x.row(4, 0);
        x.put(1, 0, 200);
        x.at(3, 0);
        h = fold(17, 1, 1, 1, 0, 1, 1, 2, 1, 2);
        h = fold(h, 1, 11, 2, -1, 1 << 10 | 1, 1);
        h = fold(h, 1, -1, 0);
        h = fold(h, -1, -1, -1, 2, -5, MAX, 0, -1);
        h = fold(h, -1, 8, -56, 65, 50, 116, 65, 66, 120, 66, -1, -1);
        c.due("with all", x.digest(), h);
        c.due("changes nothing", x.digest(), h);
        c.due("nor asked()", x.asked(), -5);
    }
}
