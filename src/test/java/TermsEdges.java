import java.math.BigInteger;

/** The edges that the document names ahead of its promises: under "What it is" and under "Terms". */
final class TermsEdges {
    private static final Check c = Edges.c;
    private static final int FINDING = Edges.FINDING, STATE = Edges.STATE, FULL = Edges.FULL;

    private TermsEdges() {
    }

    static void run() {
        calls();
        orderOfRefusals();
        refusalsChangeNothing();
        findings();
        chances();
        sets();
        rowsAndTexts();
        roomsInARing();
        kinds();
        steps();
        deeds();
        hours();
        days();
        daysByStairs();
        habit();
    }

    private static void calls() {
        Edges.says(0, "An object is used for at most 512 calls after it has been made");
        // A TEXT, three bytes and a HOUSE: five calls.
        HouseOfHours x = Check.built("pA1");
        for (int i = 5; i < 511; i += 2) {
            c.due("call " + (i + 1) + ", hour()", x.hour(), 1);
            c.due("call " + (i + 2) + ", undo(0)", x.undo(0), 1);
        }
        c.due("call 512, digest()", x.digest(), Check.built("pA1").digest());
        HouseOfHours y = new HouseOfHours();
        for (int i = 0; i < 511; i++) {
            y.tear(5);
        }
        c.due("call 512, findings(1)", y.findings(1), 511);
    }

    private static void orderOfRefusals() {
        Edges.says(0, "Refused is, the first of these that fits, in this order: BAD -1 (a number that is none, "
            + "or not as told), FULL -2, STATE -4 (not now), SPENT -6 (more than told), FINDING -3 (finding() "
            + "tells which), unless a call says so otherwise.");
        c.due("BAD", HouseOfHours.BAD, -1);
        c.due("FULL", HouseOfHours.FULL, -2);
        c.due("STATE", HouseOfHours.STATE, -4);
        c.due("SPENT", HouseOfHours.SPENT, -6);
        c.due("FINDING", HouseOfHours.FINDING, -3);
        Edges.bad(Edges::furnished, "BAD ahead of SIZE: row(6, -1)", x -> x.row(6, -1));
        Edges.bad(Edges::furnished, "BAD ahead of BEYOND: lay(6, 99, 0)", x -> x.lay(6, 99, 0));
        Edges.bad(Edges::furnished, "BAD ahead of BEYOND: at(-1, -1)", x -> x.at(-1, -1));
        Edges.bad(Edges::furnished, "BAD ahead of SIZE: copy(6, 0, 0, 0, -1)", x -> x.copy(6, 0, 0, 0, -1));
        Edges.bad(Edges::furnished, "BAD ahead of SIZE: text(4, -1)", x -> x.text(4, -1));
        Edges.bad(Edges::furnished, "BAD ahead of BEYOND: put(4, -1, 0)", x -> x.put(4, -1, 0));
        Edges.bad(Edges::furnished, "BAD ahead of UNLIKE: mark(0, 6)", x -> x.mark(0, 6));
        Edges.bad(Edges::furnished, "BAD ahead of NOTHING: errands(6, 5)", x -> x.errands(6, 5));
        Edges.bad(Edges::furnished, "BAD ahead of SIZE: best(0, 2, 6)", x -> x.best(0, 2, 6));
        Edges.bad(Edges::furnished, "BAD ahead of NOTHING: ages(5, 1000)", x -> x.ages(5, 1000));
        Edges.bad(Edges::furnished, "BAD ahead of STATE: pace(0, 10)", x -> x.pace(0, 10));
        Edges.bad(Edges::bare, "BAD ahead of STATE: keep(3)", x -> x.keep(3));
        Edges.bad(Edges::bare, "BAD ahead of STATE: ages(6, 0)", x -> x.ages(6, 0));
        Edges.bad(Edges::bare, "BAD ahead of STATE: lots(0, 1)", x -> x.lots(0, 1));
        Edges.bad(Edges::full, "BAD ahead of FULL: step(2, 0)", x -> x.step(2, 0));
        Edges.bad(Edges::full, "BAD ahead of FULL: turn(12, 1)", x -> x.turn(12, 1));
        Edges.bad(Edges::full, "BAD ahead of FULL: lots(21, 1)", x -> x.lots(21, 1));
        Edges.stateIs(Edges::bare, "STATE ahead of NOTHING: ages(0, 0)", x -> x.ages(0, 0));
    }

    private static void refusalsChangeNothing() {
        Edges.says(0, "NONE -9.");
        c.due("NONE", HouseOfHours.NONE, -9);
        Edges.none(Edges::furnished, "way(2, 6, 0) of a CHILD", x -> x.way(2, 6, 0));
        Edges.says(0, "What is refused changes nothing but finding(), findings().");
        Edges.bad(Edges::furnished, "row(0, 41)", x -> x.row(0, 41));
        Edges.stateIs(Edges::furnished, "pace(0, 9)", x -> x.pace(0, 9));
        Edges.found(Edges::furnished, "row(0, -1)", x -> x.row(0, -1), Edges.SIZE);
        Edges.isFull(Edges::full, "hour()", x -> x.hour());
        HouseOfHours x = Edges.furnished();
        c.due("finding() ahead", x.finding(), Edges.NOUGHT);
        x.row(0, 41);
        x.pace(0, 9);
        c.due("finding() behind BAD, STATE", x.finding(), Edges.NOUGHT);
        x.tear(5);
        c.due("finding() behind a FINDING", x.finding(), Edges.NOTHING);
        c.due("findings(4)", x.findings(4), 1);
        c.due("findings(1)", x.findings(1), 1);
    }

    private static void findings() {
        Edges.Maker it = Edges::furnished;
        Edges.says(0, "FINDINGS: 1 NOTHING (a ROW, a TEXT, a kept HOUSE that is missing)");
        Edges.found(it, "a ROW", x -> x.at(5, 0), 1);
        Edges.found(it, "a TEXT", x -> x.put(2, 0, 0), 1);
        Edges.found(it, "a kept HOUSE", x -> x.on(1), 1);
        Edges.says(0, "2 BEYOND (a place that there is not)");
        Edges.found(it, "of a ROW", x -> x.at(0, 3), 2);
        Edges.found(it, "of a TEXT", x -> x.put(0, 2, 0), 2);
        Edges.says(0, "3 UNLIKE (a PERSON of another KIND; a number that is none)");
        Edges.found(it, "a PERSON of another KIND", x -> x.mark(0, 1), 3);
        Edges.found(it, "a number that is no ROOM", x -> x.errands(0, 0), 3);
        Edges.says(0, "4 NOUGHT (shared among none)");
        Edges.found(it, "a ROW of none", x -> x.mean(1), 4);
        Edges.says(0, "5 SIZE (fewer than none; not as many as due)");
        Edges.found(it, "fewer than none", x -> x.text(0, -1), 5);
        Edges.found(it, "not as many as due", x -> x.ages(0, 0), 5);
    }

    private static void chances() {
        Edges.says(0, "Chances are told by upper(), lower(), in lowest terms, the lower number above 0 (0 by 1).");
        for (String signs : new String[] {"pA1", "sA1tACtADtAEtAG", "lC1xCtCHtCI", "kF1xE", "nG1xI", "pD1xCxD"}) {
            HouseOfHours x = Check.built(signs);
            for (int n = 0; n <= 8; n++) {
                chancesOfAll(signs + ", " + n + " STEPS", x, n);
            }
        }
        HouseOfHours x = Check.built("pA1");
        Edges.chance("never", x, x.odds(0, 0, 7), 0, 1);
        Edges.chance("2 of 4", x, x.odds(0, 0, 2), 1, 2);
        Edges.chance("sure", x, x.odds(0, 0, 0), 1, 1);
    }

    /** The chances of all ROOMS are told in lowest terms and are 1 together. */
    private static void chancesOfAll(String shown, HouseOfHours x, int n) {
        BigInteger up = BigInteger.ZERO, low = BigInteger.ONE;
        for (int room = 0; room < 12; room++) {
            c.due(shown + ", odds", x.odds(0, room, n), 1);
            BigInteger upper = BigInteger.valueOf(x.upper()), lower = BigInteger.valueOf(x.lower());
            c.due(shown + ", lower() above 0", lower.signum(), 1);
            c.due(shown + ", lowest terms", upper.gcd(lower).longValue(), 1);
            up = up.multiply(lower).add(upper.multiply(low));
            low = low.multiply(lower);
        }
        c.due(shown + ", together 1", up.compareTo(low), 0);
    }

    private static void sets() {
        Edges.says(0, "Sets (of PERSONS, of ROOMS) are told by bits.");
        HouseOfHours x = Check.built("pA1");
        c.due("ROOM 0 is bit 0", x.within(0, 0), 1);
        Edges.told("ROOM 11 is bit 11", x, x.person(0, 4), 2 | 1 << 11);
        c.due("all twelve", x.within(0, 12), Edges.ALL_ROOMS);
    }

    private static void rowsAndTexts() {
        Edges.says(0, "1 ROWS 0 .. 5 are rows of 0 to 40 ints");
        HouseOfHours x = new HouseOfHours();
        for (int r = 0; r < 6; r++) {
            c.due("row(" + r + ", 40)", x.row(r, 40), 40);
            Edges.told("the first place", x, x.lay(r, 0, 10 + r), 0);
            Edges.told("the last place", x, x.lay(r, 39, Edges.MIN + r), 0);
        }
        for (int r = 0; r < 6; r++) {
            Edges.told("the first place", x, x.at(r, 0), 10 + r);
            Edges.told("the second place", x, x.at(r, 1), 0);
            Edges.told("the last place", x, x.at(r, 39), Edges.MIN + r);
            c.due("no place 40", x.at(r, 40), FINDING);
            c.due("row(" + r + ", 0)", x.row(r, 0), 0);
            c.due("no place 0", x.at(r, 0), FINDING);
        }
        Edges.says(0, "TEXTS 0 .. 3 rows of 0 to 60 bytes");
        HouseOfHours y = new HouseOfHours();
        for (int t = 0; t < 4; t++) {
            c.due("text(" + t + ", 60)", y.text(t, 60), 60);
            c.due("the first place", y.put(t, 0, 10 + t), 1032);
            c.due("the last place", y.put(t, 59, 20 + t), 1032);
        }
        for (int t = 0; t < 4; t++) {
            c.due("the first place", y.put(t, 0, 0), 1010 + t);
            c.due("the second place", y.put(t, 1, 0), 1032);
            c.due("the last place", y.put(t, 59, 0), 1020 + t);
            c.due("no place 60", y.put(t, 60, 0), FINDING);
            c.due("text(" + t + ", 0)", y.text(t, 0), 0);
            c.due("no place 0", y.put(t, 0, 0), FINDING);
        }
        Edges.says(0, "or missing (at first).");
        for (int i = 0; i < 6; i++) {
            int r = i;
            Edges.found(Edges::bare, "ROW " + r, z -> z.at(r, 0), Edges.NOTHING);
        }
        for (int i = 0; i < 4; i++) {
            int t = i;
            Edges.found(Edges::bare, "TEXT " + t, z -> z.put(t, 0, 0), Edges.NOTHING);
        }
    }

    private static void roomsInARing() {
        Edges.says(0, "ROOMS are 0 .. 11 (in a TEXT A (65), B, .. L)");
        for (int room = 0; room < 12; room++) {
            HouseOfHours x = Check.built("p" + (char) (65 + room) + "0");
            Edges.told("the letter " + (char) (65 + room), x, x.person(0, 1), room);
        }
        Edges.says(0, "in a ring: DOOR i is between ROOM i and the next one (of 11: 0).");
        for (int i = 0; i < 12; i++) {
            int next = i == 11 ? 0 : i + 1, ahead = i == 0 ? 11 : i - 1, behind = next == 11 ? 0 : next + 1;
            HouseOfHours x = Check.built("p" + Edges.roomSign(i) + "0p" + Edges.roomSign(next) + "0");
            c.due("through DOOR " + i, x.step(0, next), i == 11 ? 1001 : 1000);
            c.due("and back", x.step(0, i), 1000);
            c.due("DOOR " + i + " is SHUT", x.turn(i, 1), 1);
            c.due("not on", x.step(0, next), STATE);
            c.due("not back", x.step(1, i), STATE);
            Edges.told("only the other way", x, x.person(0, 4), 1 << ahead);
            Edges.told("only the other way", x, x.person(1, 4), 1 << behind);
        }
        Edges.says(0, "A HOUSE (without PERSONS at first)");
        c.due("count(0)", new HouseOfHours().count(0), 0);
        Edges.bad(Edges::bare, "person(0, 1)", x -> x.person(0, 1));
        Edges.stateIs(Edges::bare, "hour()", x -> x.hour());
    }

    private static void kinds() {
        Edges.says(0, "KINDS of PERSONS and letters: 0 PERSON (p, 112), 1 SERVANT (s, 115; a PERSON), 2 CHILD "
            + "(c, 99; a PERSON), 3 CAT (k, 107; a PERSON), 4 LOVER (l, 108; a SERVANT), 5 SLEEPLESS (n, 110; a "
            + "CHILD).");
        int[] letters = {112, 115, 99, 107, 108, 110};
        boolean[][] isOf = {
            {false, false, false, false, false}, {true, false, false, false, false},
            {false, true, false, false, false}, {false, false, true, false, false},
            {true, false, false, true, false}, {false, true, false, false, true}};
        for (int kind = 0; kind < 6; kind++) {
            String signs = (char) letters[kind] + "A1";
            HouseOfHours x = Check.built(signs);
            Edges.told(signs, x, x.person(0, 0), kind);
            for (int asked = 1; asked <= 5; asked++) {
                int as = asked;
                if (!isOf[kind][asked - 1]) {
                    Edges.found(Edges.house(signs), signs + " as " + as, y -> y.mark(0, as), Edges.UNLIKE);
                } else {
                    c.due(signs + " is a " + as, x.mark(0, as) >= 0 ? 1 : 0, 1);
                }
            }
        }
    }

    private static boolean goesThrough(int kind, int door, int shut) {
        boolean child = kind == 2 && (door == 5 || door == 11) || kind == 5 && door == 5;
        return kind == 3 || door != shut && !child;
    }

    private static void steps() {
        Edges.says(0, "A STEP is through a DOOR that is not SHUT, either way; a SERVANT (LOVER, too) may go by "
            + "STAIRS, either way, too; a CAT through SHUT DOORS, too; a CHILD not through the DOORS 5, 11; a "
            + "SLEEPLESS one not through DOOR 5.");
        for (int kind = 0; kind < 6; kind++) {
            for (int room = 0; room < 12; room++) {
                for (int shut = -1; shut < 12; shut++) {
                    stepsFrom(kind, room, shut);
                }
            }
        }
    }

    /** With one DOOR SHUT or none, and STAIRS from ROOM 0 to 5. */
    private static void stepsFrom(int kind, int room, int shut) {
        String signs = "" + Edges.LETTERS.charAt(kind) + Edges.roomSign(room) + "1tAF"
            + (shut < 0 ? "" : "x" + Edges.roomSign(shut));
        HouseOfHours x = Check.built(signs);
        int next = (room + 1) % 12, ahead = (room + 11) % 12;
        int want = (goesThrough(kind, room, shut) ? 1 << next : 0) | (goesThrough(kind, ahead, shut) ? 1 << ahead : 0);
        if (kind == 1 || kind == 4) {
            want |= room == 0 ? 1 << 5 : room == 5 ? 1 : 0;
        }
        Edges.told(signs, x, x.person(0, 4), want);
        for (int to = 0; to < 12; to++) {
            boolean can = (want >> to & 1) == 1;
            c.due(signs + ", step(0, " + to + ")", x.step(0, to) >= 0 ? 1 : STATE, can ? 1 : STATE);
            x.undo(0);
        }
    }

    private static void deeds() {
        Edges.says(0, "a DOOR is SHUT, OPENED. These are DEEDS (40 at most).");
        HouseOfHours x = Check.built("pA1");
        for (int i = 0; i < 40; i++) {
            c.due("DEEDS", x.count(4), i);
            int answer = i % 3 == 0 ? x.hour() : i % 3 == 1 ? x.turn(5, i % 2) : x.lots(1, i);
            c.due("DEED " + i + " is done", answer >= 0 ? 1 : answer, 1);
        }
        c.due("DEEDS", x.count(4), 40);
        c.due("no 41st: hour()", x.hour(), FULL);
        c.due("no 41st: turn()", x.turn(6, 1), FULL);
        c.due("no 41st: lots()", x.lots(1, 1), FULL);
        int beside = Integer.numberOfTrailingZeros(Edges.asked(x, 0, 4));
        c.due("no 41st: step()", x.step(0, beside), FULL);
        c.due("DEEDS", x.count(4), 40);
        c.due("one is undone", x.undo(39), 1);
        c.due("so there is room for one", x.turn(6, 1), 1 + shutBut(x, 6));
        c.due("and no more", x.turn(7, 1), FULL);
    }

    private static int shutBut(HouseOfHours x, int but) {
        int n = 0;
        for (int i = 0; i < 12; i++) {
            n += i == but ? 0 : x.door(i);
        }
        return n;
    }

    private static void hours() {
        Edges.says(0, "an HOUR: each goes its PACE on, by numbers of ROOMS (through whatever), round");
        for (char kind : Edges.LETTERS.toCharArray()) {
            for (int room = 0; room < 12; room++) {
                for (int pace = 0; pace <= 9; pace++) {
                    String signs = "" + kind + Edges.roomSign(room) + pace;
                    HouseOfHours x = Check.built(signs + Edges.ALL_SHUT);
                    c.due(signs + ", hour()", x.hour(), pace == 0 ? 0 : 1);
                    int on = room + pace;
                    Edges.told(signs + ", ROOM", x, x.person(0, 1), on > 11 ? on - 12 : on);
                    Edges.told(signs + ", DAYS", x, x.person(0, 3), on > 11 ? 1 : 0);
                }
            }
        }
        Edges.says(0, "It is HOUR 0 at first.");
        HouseOfHours x = new HouseOfHours();
        c.due("count(3)", x.count(3), 0);
        Check.write(x, 0, "pA1");
        x.house(0);
        c.due("count(3) of a HOUSE", x.count(3), 0);
        x.hour();
        c.due("count(3) behind an HOUR", x.count(3), 1);
    }

    private static void days() {
        Edges.says(0, "DAYS of a PERSON are 0 at first: 1 more each time it goes from ROOM 11 on to 0 (by a STEP "
            + "through the DOOR, within an HOUR), 1 less by a STEP through it the other way");
        HouseOfHours x = Check.built("pL1kL1nL1sL1lL1pK1");
        for (int p = 0; p < 6; p++) {
            Edges.told("at first", x, x.person(p, 3), 0);
        }
        for (int p = 0; p < 5; p++) {
            c.due("on", x.step(p, 0), 1001);
            c.due("within the DAY", x.step(p, 1), 1001);
            c.due("within the DAY", x.step(p, 0), 1001);
            c.due("the other way", x.step(p, 11), 1000);
            c.due("and on", x.step(p, 0), 1001);
        }
        c.due("from 10 to 11", x.step(5, 11), 1000);
        x.hour();
        for (int p = 0; p < 6; p++) {
            Edges.told("within an HOUR only PERSON 5 goes on", x, x.person(p, 3), 1);
        }
        HouseOfHours y = Check.built("kA1xL");
        c.due("a CAT through the SHUT DOOR", y.step(0, 11), 999);
        Edges.told("below 0", y, y.person(0, 3), -1);
    }

    private static void daysByStairs() {
        Edges.says(0, "not by STAIRS (if a DOOR and a STAIR lead there, one goes through the DOOR).");
        HouseOfHours x = Check.built("sL1lA1 tAL xL");
        c.due("by a STAIR on", x.step(0, 0), 1000);
        c.due("by a STAIR back", x.step(1, 11), 1000);
        c.due("both lead there", x.turn(11, 0), 0);
        c.due("through the DOOR back", x.step(0, 11), 999);
        c.due("through the DOOR on", x.step(1, 0), 1001);
        HouseOfHours y = Check.built("sK1tKB");
        c.due("past ROOM 0 by a STAIR", y.step(0, 1), 1000);
        c.due("and back", y.step(0, 10), 1000);
        // Back through DOOR 11 and round again by a STAIR: as far below 0 as 40 DEEDS lead.
        HouseOfHours z = Check.built("sA1tLB");
        for (int day = 1; day <= 14; day++) {
            c.due("DAY " + -day, z.step(0, 11), 1000 - day);
            if (day < 14) {
                c.due("by a STAIR", z.step(0, 1), 1000 - day);
                c.due("to ROOM 0", z.step(0, 0), 1000 - day);
            }
        }
        Edges.told("DAYS", z, z.person(0, 3), -14);
        c.due("40 DEEDS", z.count(4), 40);
        c.due("all are undone", z.undo(0), 40);
        Edges.told("DAYS", z, z.person(0, 3), 0);
    }

    private static void habit() {
        Edges.says(0, "By HABIT all stay in HOURS to come as PACES are: behind h HOURS one is h times its PACE "
            + "further on.");
        for (int pace = 0; pace <= 9; pace++) {
            HouseOfHours x = Check.built("pL" + pace + "cC" + (9 - pace));
            for (int h = 0; h <= 40; h++) {
                int far = h * pace + 11, other = h * (9 - pace) + 2;
                Edges.told(h + " HOURS by " + pace, x, x.person(0, 1), far % 12);
                Edges.told(h + " HOURS by " + pace, x, x.person(0, 3), far / 12);
                Edges.told(h + " HOURS by " + (9 - pace), x, x.person(1, 1), other % 12);
                if (h < 40) {
                    x.hour();
                }
            }
            x.undo(0);
            Edges.answers("later(0, 40) by " + pace, x, x.later(0, 40), (40 * pace + 11) % 12,
                1000 + (40 * pace + 11) / 12);
        }
    }
}
