/** The edges of the small language in which a TEXT tells a HOUSE: what is a FAULT, and where. */
final class FaultEdges {
    private static final Check c = Edges.c;
    private static final int NONE = Edges.NONE, STATE = Edges.STATE;

    private FaultEdges() {
    }

    static void run() {
        blanks();
        persons();
        stairs();
        shutDoors();
        firstPlace();
        signs();
        twice();
        tooMany();
        ends();
    }

    private static void faultIs(String signs, int want) {
        HouseOfHours x = new HouseOfHours();
        Check.write(x, 0, signs);
        String shown = "\"" + signs + "\"";
        c.due("fault of " + shown, x.fault(0), want);
        int persons = signs.replaceAll("[^psckln]", "").length();
        c.due("house of " + shown, x.house(0), want == NONE ? persons : STATE);
        c.due("PERSONS of " + shown, x.count(0), want == NONE ? persons : 0);
    }

    /** The FAULT of signs of which one is any of the 256 bytes: at its place, but for those that are fine there. */
    private static void anyByteAt(String signs, int place, String fine, int... then) {
        for (int sign = -128; sign < 128; sign++) {
            HouseOfHours x = new HouseOfHours();
            Check.write(x, 3, signs);
            x.put(3, place, sign);
            int which = sign < 0 ? -1 : fine.indexOf((char) sign);
            int want = which < 0 ? place : then[Math.min(which, then.length - 1)];
            String shown = "byte " + sign + " at " + place + " of \"" + signs + "\"";
            c.due("fault of " + shown, x.fault(3), want);
            c.due("house of " + shown, x.house(3) > 0 ? 1 : STATE, want == NONE ? 1 : STATE);
        }
    }

    private static void blanks() {
        Edges.says(0, "is a TEXT: blanks (32) ahead, between, behind as many as wanted, none within items");
        faultIs(" ".repeat(57) + "pA0", NONE);
        faultIs("pA0" + " ".repeat(57), NONE);
        faultIs("pA0" + " ".repeat(54) + "sB1", NONE);
        faultIs("pA0sB1", NONE);
        faultIs("pA0xAtAB", NONE);
        faultIs("  pA0  xA  tAB  ", NONE);
        faultIs("p A0", 1);
        faultIs("pA 0", 2);
        faultIs("pA0t AB", 4);
        faultIs("pA0tA B", 5);
        faultIs("pA0x A", 4);
        faultIs("\tpA0", 0);
        faultIs("pA0\n", 3);
        faultIs("pA0" + (char) 0, 3);
        faultIs("pA0" + (char) 160, 3);
    }

    private static void persons() {
        Edges.says(0, "items are, in any order, PERSONS 0, 1, .. (1 to 6; as they come): a letter, the ROOM (a "
            + "letter), the PACE (one figure 0 .. 9)");
        StringBuilder all = new StringBuilder();
        for (int n = 1; n <= 6; n++) {
            all.append(Edges.LETTERS.charAt(n - 1)).append(Edges.roomSign(12 - n)).append(n + 3);
            faultIs(all.toString(), NONE);
            HouseOfHours x = Check.built("tAB " + all + " xC");
            c.due(n + " PERSONS", x.count(0), n);
            for (int p = 0; p < n; p++) {
                Edges.told("KIND of " + p, x, x.person(p, 0), p);
                Edges.told("ROOM of " + p, x, x.person(p, 1), 11 - p);
                Edges.told("PACE of " + p, x, x.person(p, 2), p + 4);
            }
            Edges.bad(Edges.house(all.toString()), "no PERSON " + n, y -> y.person(y.count(0), 0));
        }
        for (int pace = 0; pace <= 9; pace++) {
            HouseOfHours x = Check.built("pL" + pace);
            Edges.told("PACE " + pace, x, x.person(0, 2), pace);
        }
        faultIs("pA10", 3);
        faultIs("pA-1", 2);
        faultIs("xB lD4 tCD", NONE);
        faultIs("tCD xB lD4", NONE);
    }

    private static void stairs() {
        Edges.says(0, "STAIRS 0, 1, .. (4 at most): t (116), two ROOMS (letters, unlike)");
        String signs = "sA1";
        for (int n = 0; n <= 4; n++) {
            HouseOfHours x = Check.built(signs);
            c.due(n + " STAIRS", x.count(1), n);
            c.due(n + " STAIRS of its ROOM", x.mark(0, 1), n);
            // From ROOM 0 to 2, 4, 6, 8; each other one the other way about.
            signs += n % 2 == 0 ? "tA" + Edges.roomSign(2 * n + 2) : "t" + Edges.roomSign(2 * n + 2) + "A";
        }
        HouseOfHours x = Check.built("sA1tACtEAtAGtIA");
        Edges.told("to all of them", x, x.person(0, 4), 1 << 1 | 1 << 11 | 1 << 2 | 1 << 4 | 1 << 6 | 1 << 8);
        faultIs("pA1tABtABtABtBA", NONE);
        faultIs("pA1tALtLA", NONE);
        faultIs("pA1tAA", 5);
        faultIs("pA1tLL", 5);
    }

    private static void shutDoors() {
        Edges.says(0, "x (120), a ROOM: the DOOR from it to the next one is SHUT at first (not told twice).");
        for (int room = 0; room < 12; room++) {
            HouseOfHours x = Check.built("pA1x" + Edges.roomSign(room));
            for (int i = 0; i < 12; i++) {
                c.due("x" + Edges.roomSign(room) + ", door(" + i + ")", x.door(i), i == room ? 1 : 0);
            }
            faultIs("pA1x" + Edges.roomSign(room) + "x" + Edges.roomSign(room), 6);
        }
        c.due("all twelve", Check.built("pA1" + Edges.ALL_SHUT).count(2), 12);
        faultIs("pA1" + Edges.ALL_SHUT + "xA", 28);
        faultIs("pA1" + Edges.ALL_SHUT + "x", 28);
        c.due("none", Check.built("pA1").count(2), 0);
        HouseOfHours x = Check.built("pA1xB");
        c.due("at first: it may be OPENED", x.turn(1, 0), 0);
    }

    private static void firstPlace() {
        Edges.says(0, "A FAULT is the first place at which it can't go on so");
        faultIs("q q", 0);
        faultIs("pA0 q q", 4);
        faultIs("xAxA q", 3);
        faultIs("pMM", 1);
        faultIs("tAAq", 2);
        faultIs("pA0pA0pA0pA0pA0pA0pM", 18);
        faultIs("tABtABtABtABtMM", 12);
        // No PERSON comes last: what is wrong ahead is told first.
        faultIs("xA?", 2);
        // What was told ahead of a FAULT is forgotten.
        HouseOfHours x = new HouseOfHours();
        Check.write(x, 0, "xApA0pA0pA0pA0pA0pA0tABtABtABtAB?");
        c.due("a FAULT far on", x.fault(0), 32);
        Check.write(x, 1, "xAsB1sB1sB1sB1sB1sB1tABtABtABtAB");
        c.due("then none", x.fault(1), NONE);
        c.due("then none again", x.fault(1), NONE);
        c.due("house(1)", x.house(1), 6);
    }

    private static void signs() {
        Edges.says(0, "(a letter, a figure that is none such");
        String rooms = "ABCDEFGHIJKL";
        anyByteAt("pA0", 1, rooms, NONE);
        anyByteAt("sA0", 2, "0123456789", NONE);
        anyByteAt("pA0tAM", 4, rooms, 5);
        anyByteAt("pA0tLA", 5, "ABCDEFGHIJK", NONE);
        anyByteAt("pA0xA", 4, rooms, NONE);
        // A blank leaves the ROOM without its letter; a STAIR, a SHUT DOOR can't go on by a figure.
        anyByteAt("pA0nA1", 3, " xt" + Edges.LETTERS, 4, 5, 5, NONE);
        // Each item but a blank ends too early.
        anyByteAt("pA0 ", 3, " xt" + Edges.LETTERS, NONE, 4);
    }

    private static void twice() {
        Edges.says(0, ", the same ROOM twice");
        faultIs("tCCpA0", 2);
        faultIs("pA0tKLtLL", 8);
        Edges.says(0, ", a DOOR told already");
        faultIs("xLpA0xL", 6);
        faultIs("xAxBxA", 5);
    }

    private static void tooMany() {
        String six = "pA0sB1cC2kD3lE4nF5", four = "tABtBCtCDtDE";
        Edges.says(0, ", a seventh PERSON");
        for (char kind : Edges.LETTERS.toCharArray()) {
            faultIs(six + kind + "A0", 18);
            faultIs(six + kind, 18);
            faultIs(six + "xA" + kind + "M", 20);
        }
        faultIs(six + four + "xA", NONE);
        Edges.says(0, ", a fifth STAIR: its place");
        faultIs("pA0" + four + "tAB", 15);
        faultIs("pA0" + four + "t", 15);
        faultIs(four + "tAApA0", 12);
        faultIs(four + six + " tKL", 31);
    }

    private static void ends() {
        Edges.says(0, "the TEXT's size, if its end comes too early, or there is no PERSON)");
        for (char kind : Edges.LETTERS.toCharArray()) {
            faultIs("" + kind, 1);
            faultIs(kind + "L", 2);
            faultIs("pA0 " + kind, 5);
        }
        faultIs("t", 1);
        faultIs("tA", 2);
        faultIs("x", 1);
        faultIs("pA0t", 4);
        faultIs("pA0tL", 5);
        faultIs("pA0x", 4);
        faultIs("", 0);
        faultIs(" ", 1);
        faultIs(" ".repeat(60), 60);
        faultIs("xA", 2);
        faultIs("tAB", 3);
        faultIs("tABxA ", 6);
        faultIs(" ".repeat(59) + "p", 60);
        faultIs(" ".repeat(58) + "pA", 60);
        faultIs(" ".repeat(57) + "pA9", NONE);
    }
}
