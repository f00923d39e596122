/** The edges that promises 10 to 15 name: HOUSES and who is in them. */
final class HouseEdges {
    private static final Check c = Edges.c;
    private static final int NONE = Edges.NONE, STATE = Edges.STATE, FINDING = Edges.FINDING;
    private static final int NOTHING = Edges.NOTHING, UNLIKE = Edges.UNLIKE;

    private HouseEdges() {
    }

    static void run() {
        fault();
        house();
        houseRefused();
        person();
        personsRange();
        door();
        markOfServants();
        markOfChildren();
        markOfCats();
        markOfLovers();
        markOfSleepless();
        markRefused();
        pace();
    }

    private static void fault() {
        Edges.says(10, "A FAULT of a TEXT; NONE: there is none.");
        for (int t = 0; t < 4; t++) {
            HouseOfHours x = new HouseOfHours();
            Check.write(x, t, "pA0");
            c.due("fault(" + t + ")", x.fault(t), NONE);
            x.put(t, 2, 'A');
            c.due("fault(" + t + ")", x.fault(t), 2);
            x.text(t, 0);
            c.due("a TEXT of none", x.fault(t), 0);
        }
        Edges.Maker it = () -> {
            HouseOfHours x = Edges.furnished();
            Check.write(x, 1, "kL9xA");
            Check.write(x, 2, "kL9xAkM");
            return x;
        };
        Edges.none(it, "a TEXT without a FAULT builds nothing", x -> x.fault(1));
        Edges.refused(it, "a TEXT with a FAULT builds nothing", x -> x.fault(2), 6, 0);
        Edges.says(10, "BAD; NOTHING.");
        for (int t : Edges.outside(0, 3)) {
            Edges.bad(Edges::furnished, "fault(" + t + ")", x -> x.fault(t));
        }
        Edges.found(Edges::furnished, "fault(1)", x -> x.fault(1), NOTHING);
    }

    private static void house() {
        Edges.says(11, "A HOUSE by a TEXT (anew: HOUR 0, no DEEDS; kept HOUSES go): how many PERSONS.");
        HouseOfHours x = Edges.furnished();
        c.due("the same TEXT again", x.house(3), 6);
        int[] want = {6, 2, 2, 0, 0, 2, 3, 2, 0};
        for (int what = 0; what <= 8; what++) {
            c.due("count(" + what + ")", x.count(what), want[what]);
        }
        for (int p = 0; p < 6; p++) {
            Edges.told("DAYS of " + p, x, x.person(p, 3), 0);
            Edges.told("STEPS of " + p, x, x.person(p, 5), 0);
        }
        Edges.told("ROOM as at first", x, x.person(0, 1), 0);
        c.due("DOOR as at first", x.door(6), 0);
        for (int k = 0; k < 3; k++) {
            c.due("on(" + k + ")", x.on(k), FINDING);
        }
        c.due("nothing to undo", x.undo(0), 0);
        c.due("PACES can change", x.pace(0, 5), 1);
        HouseOfHours full = Edges.full();
        Check.write(full, 0, "nL4");
        c.due("behind 40 DEEDS", full.house(0), 1);
        c.due("no DEEDS", full.count(4), 0);
        c.due("so there is room for one", full.hour(), 1);
        HouseOfHours fewer = Check.built("sA1sB1sC1tABtCDxAxB");
        Check.write(fewer, 0, "pD2");
        c.due("fewer PERSONS", fewer.house(0), 1);
        c.due("fewer STAIRS", fewer.count(1), 0);
        c.due("fewer SHUT DOORS", fewer.count(2), 0);
        c.due("no PERSON 1", fewer.person(1, 0), Edges.BAD);
        HouseOfHours turned = new HouseOfHours();
        turned.turn(3, 1);
        Check.write(turned, 0, "pD2");
        turned.house(0);
        c.due("DOORS SHUT without PERSONS", turned.count(2), 0);
        c.due("and the DEED", turned.count(4), 0);
    }

    private static void houseRefused() {
        Edges.says(11, "BAD; NOTHING; STATE: a FAULT. (STATE behind NOTHING.)");
        for (int t : Edges.outside(0, 3)) {
            Edges.bad(Edges::furnished, "house(" + t + ")", x -> x.house(t));
        }
        Edges.found(Edges::furnished, "house(1), a missing TEXT", x -> x.house(1), NOTHING);
        Edges.stateIs(Edges::furnished, "house(0)", x -> x.house(0));
        Edges.Maker nearly = () -> {
            HouseOfHours x = Edges.furnished();
            Check.write(x, 1, "xAtABkA1kB2kC");
            x.text(2, 0);
            return x;
        };
        Edges.stateIs(nearly, "its end comes too early", x -> x.house(1));
        Edges.stateIs(nearly, "a TEXT of none", x -> x.house(2));
        HouseOfHours x = nearly.make();
        c.due("a FAULT", x.house(1), STATE);
        c.due("kept HOUSES stay", x.count(8), 2);
        c.due("DEEDS stay", x.count(4), 3);
    }

    private static void person() {
        Edges.says(12, "0 the KIND, 1 the ROOM, 2 the PACE, 3 DAYS, 4 to which ROOMS it can STEP (bits), 5 how "
            + "many STEPS it made, told by asked(): 1.");
        HouseOfHours x = Check.built("pA0nL9");
        int[][] want = {{0, 0, 0, 0, 1 << 1 | 1 << 11, 0}, {5, 11, 9, 0, 1 << 10 | 1, 0}};
        for (int p = 0; p < 2; p++) {
            for (int what = 0; what <= 5; what++) {
                Edges.told("person(" + p + ", " + what + ")", x, x.person(p, what), want[p][what]);
            }
        }
        HouseOfHours shutIn = Check.built("pA1xAxL");
        Edges.told("it can't STEP", shutIn, shutIn.person(0, 4), 0);
        HouseOfHours climber = Check.built("lF1tFAtFBtFCtFL");
        Edges.told("six ROOMS", climber, climber.person(0, 4), 1 | 1 << 1 | 1 << 2 | 1 << 11 | 1 << 4 | 1 << 6);
        HouseOfHours busy = Check.built("pA0pA0");
        for (int i = 1; i <= 40; i++) {
            busy.step(0, i % 2);
            Edges.told("STEPS", busy, busy.person(0, 5), i);
        }
        Edges.told("the other's STEPS", busy, busy.person(1, 5), 0);
        HouseOfHours refused = Check.built("pA0");
        refused.step(0, 5);
        refused.hour();
        Edges.told("neither a refused STEP nor an HOUR", refused, refused.person(0, 5), 0);
    }

    private static void personsRange() {
        Edges.says(12, "BAD. (DAYS may be below 0.)");
        for (int what = 0; what <= 5; what++) {
            int asked = what;
            for (int p : Edges.outside(0, 5)) {
                Edges.bad(Edges::furnished, "person(" + p + ", " + what + ")", x -> x.person(p, asked));
            }
            Edges.bad(Edges.house("pA1"), "person(1, " + what + ") of one", x -> x.person(1, asked));
        }
        for (int what : Edges.outside(0, 5)) {
            Edges.bad(Edges::furnished, "person(0, " + what + ")", x -> x.person(0, what));
        }
        HouseOfHours x = Check.built("kA1xL");
        x.step(0, 11);
        Edges.told("DAYS", x, x.person(0, 3), -1);
        for (int room = 10; room >= 0; room--) {
            x.step(0, room);
        }
        x.step(0, 11);
        Edges.told("DAYS", x, x.person(0, 3), -2);
    }

    private static void door() {
        Edges.says(13, "Whether a DOOR (0 .. 11) is SHUT (1, 0). BAD.");
        for (int i = 0; i < 12; i++) {
            HouseOfHours x = new HouseOfHours();
            c.due("open", x.door(i), 0);
            x.turn(i, 1);
            c.due("SHUT", x.door(i), 1);
            c.due("the next one", x.door((i + 1) % 12), 0);
            x.turn(i, 0);
            c.due("OPENED", x.door(i), 0);
        }
        for (int i : Edges.outside(0, 11)) {
            Edges.bad(Edges::furnished, "door(" + i + ")", x -> x.door(i));
            Edges.bad(Edges::bare, "door(" + i + ")", x -> x.door(i));
        }
        // Bits wrap around in Java: 32 and 33 more are no DOORS either.
        for (int i : new int[] {32, 33, 43, -31, -21}) {
            Edges.bad(Edges::furnished, "door(" + i + ")", x -> x.door(i));
        }
    }

    private static void markOfServants() {
        Edges.says(14, "a SERVANT (LOVER, too) how many STAIRS its ROOM has");
        c.due("none", Check.built("sA1").mark(0, 1), 0);
        c.due("none of its ROOM", Check.built("sA1tBCtLK").mark(0, 1), 0);
        c.due("four", Check.built("sA1tABtCAtADtEA").mark(0, 1), 4);
        c.due("four between two ROOMS", Check.built("lL1tALtALtLAtLA").mark(0, 1), 4);
        HouseOfHours x = Check.built("sL1tAB");
        c.due("ahead of a STEP", x.mark(0, 1), 0);
        x.step(0, 0);
        c.due("of the ROOM it is in now", x.mark(0, 1), 1);
    }

    private static void markOfChildren() {
        Edges.says(14, "a CHILD (SLEEPLESS, too) behind how many HOURS it is a DAY older by HABIT (1 .. 12; "
            + "NONE: never)");
        for (int room = 0; room < 12; room++) {
            for (int pace = 0; pace <= 9; pace++) {
                int want = NONE;
                for (int h = 12; h >= 1; h--) {
                    want = room + h * pace >= 12 ? h : want;
                }
                String rest = "" + Edges.roomSign(room) + pace;
                c.due("c" + rest, Check.built("c" + rest).mark(0, 2), want);
                c.due("n" + rest, Check.built("n" + rest).mark(0, 2), want);
            }
        }
        c.due("twelve at most", Check.built("cA1").mark(0, 2), 12);
        c.due("one at least", Check.built("cL9").mark(0, 2), 1);
        Edges.none(Edges.house("cL0pA1"), "never", x -> x.mark(0, 2));
        HouseOfHours x = Check.built("nA1");
        x.step(0, 11);
        c.due("DAYS below 0 are no matter", x.mark(0, 2), 1);
    }

    private static void markOfCats() {
        Edges.says(14, "a CAT how many SHUT DOORS its ROOM has (0 to 2)");
        for (int room = 0; room < 12; room++) {
            char ahead = Edges.roomSign((room + 11) % 12), own = Edges.roomSign(room);
            String cat = "k" + own + "1";
            c.due(cat + ", none", Check.built(cat).mark(0, 3), 0);
            c.due(cat + ", ahead", Check.built(cat + "x" + ahead).mark(0, 3), 1);
            c.due(cat + ", its own", Check.built(cat + "x" + own).mark(0, 3), 1);
            c.due(cat + ", both", Check.built(cat + "x" + own + "x" + ahead).mark(0, 3), 2);
            c.due(cat + ", all", Check.built(cat + Edges.ALL_SHUT).mark(0, 3), 2);
        }
    }

    private static void markOfLovers() {
        Edges.says(14, "a LOVER how many others are in its ROOM");
        c.due("none", Check.built("lA1").mark(0, 4), 0);
        c.due("none but elsewhere", Check.built("pB1lA1pL1").mark(1, 4), 0);
        c.due("five", Check.built("pL1sL1cL1kL1nL1lL1").mark(5, 4), 5);
        c.due("another LOVER", Check.built("lC1lC1").mark(1, 4), 1);
    }

    private static void markOfSleepless() {
        Edges.says(14, "a SLEEPLESS one how many ROOMS it does not come to by any STEPS");
        c.due("comes to all", Check.built("nA1").mark(0, 5), 0);
        c.due("to all but one", Check.built("nA1xEtAF").mark(0, 5), 1);
        c.due("to none", Check.built("nA1xAxL").mark(0, 5), 11);
        c.due("in ROOM 11", Check.built("nL1xKxL").mark(0, 5), 11);
        c.due("to half", Check.built("nF1xL").mark(0, 5), 6);
    }

    private static void markRefused() {
        Edges.says(14, "BAD: also KIND 0; UNLIKE.");
        for (int p = 0; p < 6; p++) {
            int who = p;
            Edges.bad(Edges::furnished, "mark(" + p + ", 0)", x -> x.mark(who, 0));
            for (int kind : Edges.outside(0, 5)) {
                Edges.bad(Edges::furnished, "mark(" + p + ", " + kind + ")", x -> x.mark(who, kind));
            }
        }
        for (int p : Edges.outside(0, 5)) {
            Edges.bad(Edges::furnished, "mark(" + p + ", 1)", x -> x.mark(p, 1));
        }
        Edges.bad(Edges.house("sA1"), "mark(1, 1) of one", x -> x.mark(1, 1));
        // PERSONS 0 to 5 are of KINDS 0 to 5; a LOVER is a SERVANT, a SLEEPLESS one a CHILD, and not the other way.
        for (int p = 0; p < 6; p++) {
            for (int kind = 1; kind <= 5; kind++) {
                int who = p, as = kind;
                boolean is = p == kind || p == 4 && kind == 1 || p == 5 && kind == 2;
                if (!is) {
                    Edges.found(Edges::furnished, "mark(" + p + ", " + kind + ")", x -> x.mark(who, as), UNLIKE);
                }
            }
        }
    }

    private static void pace() {
        Edges.says(15, "The PACE of a PERSON is v (0 .. 9): what it was.");
        HouseOfHours x = Check.built("pA5pB6pC7pD8pE9pF0");
        for (int p = 0; p < 6; p++) {
            int was = (p + 5) % 10;
            for (int v = 0; v <= 9; v++) {
                c.due("pace(" + p + ", " + v + ")", x.pace(p, v), was);
                was = v;
            }
            Edges.told("it is 9", x, x.person(p, 2), 9);
        }
        c.due("it is no DEED", x.count(4), 0);
        Edges.says(15, "BAD; STATE: there are DEEDS.");
        for (int v : Edges.outside(0, 9)) {
            Edges.bad(Edges.house("pA1"), "pace(0, " + v + ")", y -> y.pace(0, v));
            Edges.bad(Edges::furnished, "BAD ahead of STATE: pace(0, " + v + ")", y -> y.pace(0, v));
        }
        for (int p : Edges.outside(0, 5)) {
            Edges.bad(Edges::furnished, "pace(" + p + ", 1)", y -> y.pace(p, 1));
        }
        Edges.bad(Edges.house("pA1"), "pace(1, 1) of one", y -> y.pace(1, 1));
        Edges.stateIs(Edges::furnished, "there are DEEDS", y -> y.pace(0, 1));
        Edges.stateIs(Edges::full, "there are 40", y -> y.pace(0, 1));
        paceBehindOneDeed();
    }

    private static void paceBehindOneDeed() {
        Edges.Call[] deeds = {x -> x.step(0, 1), x -> x.hour(), x -> x.turn(3, 1), x -> x.lots(1, 1)};
        for (int i = 0; i < deeds.length; i++) {
            HouseOfHours x = Check.built("pA1");
            deeds[i].on(x);
            c.due("one DEED", x.count(4), 1);
            c.due("one DEED is enough", x.pace(0, 2), STATE);
            x.undo(0);
            c.due("when it is undone", x.pace(0, 2), 1);
        }
    }
}
