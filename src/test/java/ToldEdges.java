import java.math.BigInteger;

/** The edges that promises 37 to 45 name: chances, lots, what is told. */
final class ToldEdges {
    private static final Check c = Edges.c;
    private static final int NONE = Edges.NONE, STATE = Edges.STATE, FULL = Edges.FULL;
    private static final int LAST_SEED = 2147483646;

    private ToldEdges() {
    }

    static void run() {
        odds();
        oddsRefused();
        lots();
        lotsInstead();
        lotsRefused();
        asked();
        askedNotTold();
        upperAndLower();
        count();
        finding();
        findings();
        digest();
        digestOfMost();
    }

    private static void odds() {
        Edges.says(37, "Chances that one who wanders is in a ROOM behind n (0 .. 8) STEPS, each to any to which "
            + "it can STEP, alike likely (it stays, if it can't), told by upper(), lower(): 1.");
        HouseOfHours x = Check.built("pA1");
        Edges.chance("no STEPS: here", x, x.odds(0, 0, 0), 1, 1);
        Edges.chance("no STEPS: there", x, x.odds(0, 11, 0), 0, 1);
        Edges.chance("one", x, x.odds(0, 11, 1), 1, 2);
        Edges.chance("eight: home", x, x.odds(0, 0, 8), 35, 128);
        Edges.chance("eight: one way on, or 28 back", x, x.odds(0, 8, 8), 1 + 28, 256);
        Edges.chance("eight: the other half", x, x.odds(0, 6, 8), 1, 16);
        Edges.chance("eight: an odd ROOM", x, x.odds(0, 7, 8), 0, 1);
        HouseOfHours in = Check.built("pE1" + Edges.ALL_SHUT);
        for (int n = 0; n <= 8; n++) {
            Edges.chance("it stays, " + n, in, in.odds(0, 4, n), 1, 1);
            Edges.chance("it does not go on, " + n, in, in.odds(0, 5, n), 0, 1);
        }
        HouseOfHours hub = Check.built("sA1tACtADtAEtAG");
        Edges.chance("one of six", hub, hub.odds(0, 6, 1), 1, 6);
        Edges.chance("by either of two of six, each with three", hub, hub.odds(0, 5, 2), 1, 9);
        HouseOfHours both = Check.built("sA1tABtBAtAB");
        Edges.chance("a DOOR and STAIRS to one ROOM are one ROOM", both, both.odds(0, 1, 1), 1, 2);
        c.due("nothing is done", x.count(4), 0);
    }

    private static void oddsRefused() {
        Edges.says(37, "BAD.");
        for (int p : Edges.outside(0, 5)) {
            Edges.bad(Edges::furnished, "odds(" + p + ", 0, 0)", x -> x.odds(p, 0, 0));
        }
        for (int room : Edges.outside(0, 11)) {
            Edges.bad(Edges::furnished, "odds(0, " + room + ", 0)", x -> x.odds(0, room, 0));
        }
        for (int n : Edges.outside(0, 8)) {
            Edges.bad(Edges::furnished, "odds(0, 0, " + n + ")", x -> x.odds(0, 0, n));
        }
        Edges.bad(Edges::bare, "no PERSONS", x -> x.odds(0, 0, 0));
        Edges.bad(Edges.house("pA1"), "odds(1, 0, 0) of one", x -> x.odds(1, 0, 0));
    }

    /** What lots() is told to do, by step() and hour(), with numbers that can't wrap around. */
    private static int byHand(HouseOfHours x, int n, int seed) {
        BigInteger lot = BigInteger.valueOf(seed), persons = BigInteger.valueOf(x.count(0));
        for (int i = 0; i < n; i++) {
            lot = lot.multiply(BigInteger.valueOf(48271)).mod(BigInteger.valueOf(2147483647));
            int who = lot.mod(persons).intValue();
            int rooms = Edges.asked(x, who, 4), many = Integer.bitCount(rooms);
            if (many == 0) {
                x.hour();
                continue;
            }
            int ahead = lot.divide(BigInteger.valueOf(16)).mod(BigInteger.valueOf(many)).intValue();
            for (int k = 0; k < ahead; k++) {
                rooms &= rooms - 1;
            }
            x.step(who, Integer.numberOfTrailingZeros(rooms));
        }
        int there = 0;
        for (int p = 0; p < x.count(0); p++) {
            there += Edges.asked(x, p, 1) == 0 ? 1 : 0;
        }
        return there;
    }

    private static void asByHand(String signs, int n, int seed) {
        HouseOfHours x = Check.built(signs), y = Check.built(signs);
        String shown = signs + ", lots(" + n + ", " + seed + ")";
        c.due(shown, x.lots(n, seed), byHand(y, n, seed));
        c.due(shown + ", DEEDS", x.count(4), n);
        c.due(shown + ", digest()", x.digest(), y.digest());
        c.due(shown + ", undo()", x.undo(n / 2), y.undo(n / 2));
        c.due(shown + ", undo(), digest()", x.digest(), y.digest());
    }

    private static void lots() {
        Edges.says(38, "n (1 .. 20) STEPS truly by LOTS of a seed: a number comes from the one ahead by 48271 "
            + "times it modulo 2147483647, the first from the seed (1 .. 2147483646)");
        int[] seeds = {1, 2, 44488, 44489, 1073741823, 2147483645, LAST_SEED};
        for (int seed : seeds) {
            for (int n : new int[] {1, 2, 19, 20}) {
                asByHand("pA1", n, seed);
                asByHand("pL1sB2cC3kD4lE5nF6 xBxE tAGtBH", n, seed);
                asByHand("cL9nG7 xAxFxG", n, seed);
            }
        }
        // The last seed is as good as -1: it first has 2147483647 less 48271, which is 2147435376, for PERSON 0 of two.
        HouseOfHours x = Check.built("pA0pA0");
        c.due("lots(1, the last seed)", x.lots(1, LAST_SEED), 1);
        Edges.told("PERSON 0 goes", x, x.person(0, 5), 1);
        Edges.told("by 16, cut, 134214711: the second of two", x, x.person(0, 1), 11);
        Edges.says(38, "who STEPS is it modulo how many PERSONS there are, to the ROOM (by numbers) of those to "
            + "which it can at it by 16, cut, modulo how many these are");
        // Seed 1 first has 48271, by 16 3016: PERSON 1 of two; of 1, 2, .. 6 ROOMS the first, the first, the second,
        // the first, the second, the fifth.
        int[] rooms = {1, 0, 2, 0, 2, 8};
        String[] houses = {"pA0pA0xL", "pA0pB0", "sA0sB0tBG", "sA0sB0tBGtBH", "sA0sB0tBGtBHtBI", "sA0sB0tBGtBHtBItBJ"};
        for (int i = 0; i < 6; i++) {
            HouseOfHours y = Check.built(houses[i]);
            y.lots(1, 1);
            Edges.told("one of " + (i + 1) + " ROOMS", y, y.person(1, 1), rooms[i]);
            Edges.told("PERSON 0 stays", y, y.person(0, 5), 0);
        }
    }

    private static void lotsInstead() {
        Edges.says(38, "(an HOUR instead, if it can't): how many PERSONS are in ROOM 0 then.");
        HouseOfHours x = Check.built("pL1pL1pL1pL1pL1pL1" + Edges.ALL_SHUT);
        c.due("all six come to ROOM 0", x.lots(1, 7), 6);
        c.due("by an HOUR", x.count(3), 1);
        Edges.told("not by a STEP", x, x.person(0, 5), 0);
        Edges.told("a DAY", x, x.person(5, 3), 1);
        c.due("twenty HOURS", x.lots(20, LAST_SEED), 0);
        c.due("twenty HOURS more", x.count(3), 21);
        c.due("DEEDS", x.count(4), 21);
        c.due("none is there", Check.built("pG0" + Edges.ALL_SHUT).lots(3, 9), 0);
        c.due("all stay there", Check.built("pA0pA0" + Edges.ALL_SHUT).lots(3, 9), 2);
        // Seed 1 first has 48271: PERSON 1 of two, who can't, so that both go on.
        HouseOfHours y = Check.built("kL1pL1xKxL");
        c.due("an HOUR is for all", y.lots(1, 1), 2);
        Edges.told("also for one who could STEP", y, y.person(0, 5), 0);
    }

    private static void lotsRefused() {
        Edges.says(38, "BAD; STATE: no PERSONS; FULL: with n more there would be more than 40 DEEDS. (FULL last.)");
        for (int n : Edges.outside(1, 20)) {
            Edges.bad(Edges::furnished, "lots(" + n + ", 1)", x -> x.lots(n, 1));
            Edges.bad(Edges::bare, "BAD ahead of STATE: lots(" + n + ", 1)", x -> x.lots(n, 1));
            Edges.bad(Edges::full, "BAD ahead of FULL: lots(" + n + ", 1)", x -> x.lots(n, 1));
        }
        for (int seed : new int[] {0, -1, Edges.MIN, Edges.MAX}) {
            Edges.bad(Edges::furnished, "lots(1, " + seed + ")", x -> x.lots(1, seed));
            Edges.bad(Edges::full, "BAD ahead of FULL: lots(1, " + seed + ")", x -> x.lots(1, seed));
        }
        Edges.stateIs(Edges::bare, "no PERSONS", x -> x.lots(1, 1));
        Edges.stateIs(Edges::fullBare, "STATE ahead of FULL", x -> x.lots(1, 1));
        Edges.isFull(Edges::full, "one more than 40", x -> x.lots(1, 1));
        Edges.isFull(Edges::full, "twenty more than 40", x -> x.lots(20, 1));
        for (int n = 1; n <= 20; n++) {
            int many = n;
            Edges.Maker nearly = () -> {
                HouseOfHours x = Edges.full();
                x.undo(41 - many);
                return x;
            };
            Edges.isFull(nearly, "lots(" + n + ", 1) at " + (41 - n), x -> x.lots(many, 1));
            HouseOfHours just = Edges.full();
            just.undo(40 - n);
            c.due("lots(" + n + ", 1) at " + (40 - n), just.lots(n, 1) >= 0 ? 1 : 0, 1);
            c.due("just 40", just.count(4), 40);
            c.due("no more", just.lots(1, 1), FULL);
        }
    }

    /** With two who meet, two ROWS, and what each of the eleven calls that tell would tell now: each another number. */
    private static HouseOfHours telling() {
        HouseOfHours x = Check.built("pC2pD1cL1 xE");
        Check.fill(x, 0, 60, 40);
        x.row(1, 3);
        return x;
    }

    private static void asked() {
        Edges.says(39, "What the latest lay(), at(), mean(), person(), middle(), bar(), later(), meet(), "
            + "crowd(), change(), ages() that was not refused (nor NONE) told; 0 before.");
        c.due("0 before", new HouseOfHours().asked(), 0);
        c.due("0 before, with a HOUSE", Check.built("pC2").asked(), 0);
        HouseOfHours x = telling();
        Edges.told("lay()", x, x.lay(0, 0, 70), 60);
        Edges.told("at()", x, x.at(0, 0), 70);
        Edges.told("mean()", x, x.mean(0), 55);
        Edges.told("person()", x, x.person(0, 1), 2);
        Edges.answers("middle()", x, x.middle(0, 1), 2, 1);
        Edges.answers("bar()", x, x.bar(0, 3), 1, 1 << 2);
        Edges.answers("later()", x, x.later(0, 5), 0, 1001);
        Edges.answers("meet()", x, x.meet(0, 1), 1, 4);
        Edges.answers("crowd()", x, x.crowd(), 1, 2);
        Edges.answers("change()", x, x.change(1, 0), 0, 1);
        Edges.told("ages()", x, x.ages(1, 0), 8);
        Edges.told("ages(), none", x, x.ages(1, 999), NONE);
        Edges.told("at() again", x, x.at(0, 1), 40);
    }

    private static void askedNotTold() {
        Edges.Call[] silent = {x -> x.row(2, 1), x -> x.tear(1), x -> x.copy(0, 0, 1, 0, 1), x -> x.text(0, 1),
            x -> x.put(3, 0, 1), x -> x.fault(3), x -> x.house(3), x -> x.door(0), x -> x.mark(2, 2), x -> x.pace(0, 1),
            x -> x.step(0, 3), x -> x.hour(), x -> x.turn(0, 1), x -> x.undo(0), x -> x.keep(0), x -> x.way(0, 1, 2),
            x -> x.within(0, 3), x -> x.errands(0, 1), x -> x.best(0, 1, 2), x -> x.parts(0), x -> x.when(0, 4),
            x -> x.round(), x -> x.paces(0, 0, 0), x -> x.odds(0, 0, 0), x -> x.lots(1, 1), x -> x.upper(),
            x -> x.lower(), x -> x.count(0), x -> x.finding(), x -> x.findings(1), x -> x.digest()};
        for (int i = 0; i < silent.length; i++) {
            HouseOfHours x = telling();
            x.at(0, 1);
            long answer = silent[i].on(x);
            // Each of them is done: fault() answers NONE, and digest() may be any number.
            boolean done = answer >= 0 || answer == NONE || i == silent.length - 1;
            c.due("silent call " + i + " is not refused", done ? 1 : 0, 1);
            c.due("silent call " + i + " does not tell", x.asked(), 40);
        }
        HouseOfHours x = telling();
        x.at(0, 1);
        x.keep(0);
        x.on(0);
        c.due("on() does not tell", x.asked(), 40);
        Edges.Call[] refused = {y -> y.lay(0, 2, 1), y -> y.at(5, 0), y -> y.mean(5), y -> y.person(0, 6),
            y -> y.middle(0, 0), y -> y.bar(0, 2), y -> y.later(0, 1000), y -> y.meet(1, 1), y -> y.change(0, 3),
            y -> y.ages(0, 0)};
        for (int i = 0; i < refused.length; i++) {
            c.due("call " + i + " is refused", refused[i].on(x) < 0 ? 1 : 0, 1);
            c.due("refused call " + i + " does not tell", x.asked(), 40);
        }
        HouseOfHours none = Check.built("pA0cB0kC0xAxL");
        none.later(0, 0);
        c.due("middle() of NONE", none.middle(0, 1), NONE);
        c.due("bar() of NONE", none.bar(2, 0), NONE);
        c.due("meet() of NONE", none.meet(0, 1), NONE);
        c.due("they don't tell", none.asked(), 1000);
        c.due("crowd() is refused", new HouseOfHours().crowd(), STATE);
    }

    private static void upperAndLower() {
        Edges.says(40, "The upper number that was told last; 0 before.");
        c.due("0 before", new HouseOfHours().upper(), 0);
        HouseOfHours x = Check.built("pA1");
        c.due("0 before, with a HOUSE", x.upper(), 0);
        x.odds(0, 0, 8);
        c.due("by odds()", x.upper(), 35);
        x.row(0, 1);
        x.ages(0, 11);
        c.due("by ages()", x.upper(), 1);
        x.ages(0, 12);
        c.due("by ages(), none", x.upper(), 0);
        Edges.says(41, "Its lower number; 1 before.");
        c.due("1 before", new HouseOfHours().lower(), 1);
        HouseOfHours y = Check.built("pA1");
        c.due("1 before, with a HOUSE", y.lower(), 1);
        y.odds(0, 0, 8);
        c.due("by odds()", y.lower(), 128);
        y.odds(0, 0, 9);
        y.ages(0, 0);
        c.due("not by a refused call", y.lower(), 128);
        y.house(3);
        c.due("nor by a HOUSE anew", y.lower(), 128);
        y.row(0, 1);
        y.ages(0, 12);
        c.due("by ages()", y.lower(), 1);
    }

    private static void count() {
        Edges.says(42, "0 PERSONS, 1 STAIRS, 2 SHUT DOORS, 3 the HOUR, 4 DEEDS, 5 SERVANTS (LOVERS, too), 6 "
            + "ROWS, 7 TEXTS that are there, 8 kept HOUSES.");
        int[] most = {6, 4, 12, 40, 40, 6, 6, 4, 3};
        HouseOfHours x = Check.built("sA1lB2sC3lD4sE5lF6tABtABtABtAB" + Edges.ALL_SHUT);
        for (int i = 0; i < 40; i++) {
            x.hour();
        }
        for (int i = 0; i < 6; i++) {
            x.row(i, 0);
            x.text(i, 0);
            x.keep(i);
        }
        for (int what = 0; what <= 8; what++) {
            c.due("the most, count(" + what + ")", x.count(what), most[what]);
            c.due("the least, count(" + what + ")", new HouseOfHours().count(what), 0);
        }
        c.due("no SERVANTS", Check.built("pA1cA1kA1nA1").count(5), 0);
        x.undo(0);
        c.due("the HOUR is undone", x.count(3), 0);
        c.due("the DEEDS are undone", x.count(4), 0);
        Edges.says(42, "BAD.");
        for (int what : Edges.outside(0, 8)) {
            Edges.bad(Edges::furnished, "count(" + what + ")", y -> y.count(what));
            Edges.bad(Edges::bare, "count(" + what + ")", y -> y.count(what));
        }
    }

    private static void finding() {
        Edges.says(43, "The latest FINDING (0 before any).");
        HouseOfHours x = new HouseOfHours();
        c.due("before any", x.finding(), 0);
        x.row(6, 0);
        x.hour();
        c.due("BAD, STATE are none", x.finding(), 0);
        HouseOfHours full = Edges.full();
        full.hour();
        c.due("FULL is none", full.finding(), 0);
        HouseOfHours none = Check.built("pA0");
        none.when(0, 1);
        c.due("NONE is none", none.finding(), 0);
        Check.fill(x, 0, 12);
        x.row(1, 0);
        Check.write(x, 0, "pA1");
        x.house(0);
        Edges.Call[] calls = {y -> y.tear(5), y -> y.at(0, 1), y -> y.errands(0, 0), y -> y.mean(1), y -> y.row(0, -1)};
        for (int turn = 0; turn < 2; turn++) {
            for (int f = 1; f <= 5; f++) {
                calls[f - 1].on(x);
                c.due("the latest", x.finding(), f);
                x.at(0, 0);
                x.row(6, 0);
                c.due("it stays", x.finding(), f);
            }
        }
    }

    private static void findings() {
        Edges.says(44, "How often a FINDING (1 .. 5) was answered. BAD.");
        HouseOfHours x = new HouseOfHours();
        for (int i = 0; i < 400; i++) {
            x.row(0, -1);
        }
        c.due("400 times", x.findings(5), 400);
        for (int f = 1; f <= 4; f++) {
            c.due("never, findings(" + f + ")", x.findings(f), 0);
        }
        x.row(0, 41);
        x.row(0, 1);
        c.due("neither BAD nor what is done", x.findings(5), 400);
        for (int f : Edges.outside(1, 5)) {
            Edges.bad(Edges::furnished, "findings(" + f + ")", y -> y.findings(f));
            Edges.bad(Edges::bare, "findings(" + f + ")", y -> y.findings(f));
        }
    }

    private static long fold(long h, long... values) {
        for (long v : values) {
            h = 31 * h + v;
        }
        return h;
    }

    private static void digest() {
        Edges.says(45, "of each kept HOUSE how many DEEDS (-1: missing); of each ROW its size (-1: missing) and "
            + "places, of each TEXT likewise.");
        long nothing = fold(17, 0, 0, 0, 0, 0, 0, 0, 0, 0, -1, -1, -1);
        c.due("all missing", new HouseOfHours().digest(), fold(nothing, -1, -1, -1, -1, -1, -1, -1, -1, -1, -1));
        HouseOfHours x = new HouseOfHours();
        x.row(5, 0);
        x.text(3, 0);
        long h = fold(17, 0, 0, 0, 0, 0, 0, 1, 1, 0, -1, -1, -1);
        c.due("the last ones, of none", x.digest(), fold(h, -1, -1, -1, -1, -1, 0, -1, -1, -1, 0));
        x.row(5, 2);
        x.lay(5, 0, Edges.MIN);
        x.lay(5, 1, -1);
        x.text(3, 2);
        x.put(3, 0, -128);
        x.put(3, 1, 127);
        c.due("numbers below 0", x.digest(),
            fold(h, -1, -1, -1, -1, -1, 2, Edges.MIN, -1, -1, -1, -1, 2, -128, 127));
        x.tear(5);
        h = fold(17, 0, 0, 0, 0, 0, 0, 0, 1, 0, -1, -1, -1);
        c.due("torn", x.digest(), fold(h, -1, -1, -1, -1, -1, -1, -1, -1, -1, 2, -128, 127));
        HouseOfHours y = new HouseOfHours();
        Check.write(y, 0, "kA1");
        y.house(0);
        y.keep(1);
        y.step(0, 11);
        y.keep(2);
        h = fold(17, 1, 0, 0, 0, 1, 0, 0, 1, 2);
        h = fold(h, 3, 11, 1, -1, 1 << 10 | 1, 1);
        h = fold(h, -1, 0, 1);
        c.due("DAYS below 0; kept with none and with one DEED", y.digest(),
            fold(h, -1, -1, -1, -1, -1, -1, 3, 'k', 'A', '1', -1, -1, -1));
    }

    /** As many numbers as there can be: h has long gone round. */
    private static void digestOfMost() {
        Edges.says(45, "h = 17; then h = 31 h + v for each v: count() 0 to 8; of each PERSON person() 0 to 5");
        String signs = "sA1lB2sC3lD4sE5lF6tABtBCtCDtDExK";
        HouseOfHours x = new HouseOfHours();
        Check.write(x, 0, signs);
        x.house(0);
        for (int k = 0; k < 3; k++) {
            x.keep(k);
            x.hour();
        }
        for (int r = 0; r < 6; r++) {
            x.row(r, 40);
            x.lay(r, 39, Edges.MAX - r);
        }
        long h = 17;
        for (int what = 0; what <= 8; what++) {
            h = fold(h, x.count(what));
        }
        for (int p = 0; p < 6; p++) {
            for (int what = 0; what <= 5; what++) {
                h = fold(h, Edges.asked(x, p, what));
            }
        }
        h = fold(h, 0, 1, 2);
        for (int r = 0; r < 6; r++) {
            h = fold(fold(h, 40), new long[39]);
            h = fold(h, Edges.MAX - r);
        }
        h = fold(h, signs.length());
        for (char sign : signs.toCharArray()) {
            h = fold(h, sign);
        }
        c.due("the most", x.digest(), fold(h, -1, -1, -1));
    }
}
