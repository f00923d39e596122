import java.util.Arrays;

/**
 * A house of one day: twelve rooms in a ring, each of them an hour; doors that
 * may be shut, stairs that only servants and lovers know, and people of kinds.
 * Every row that a call needs is made in the constructor and used again, so
 * that no call makes an object.
 */
public final class HouseOfHours {
    public static final int BAD = -1, FULL = -2, FINDING = -3, STATE = -4, SPENT = -6, NONE = -9;

    private static final int NOTHING = 1, BEYOND = 2, UNLIKE = 3, NOUGHT = 4, SIZE = 5;
    private static final int FINDINGS = 5;

    private static final int ROWS = 6, ROW_SIZE = 40;
    private static final int TEXTS = 4, TEXT_SIZE = 60;
    private static final int MISSING = -1;

    private static final int ROOMS = 12, ALL_DOORS = 4095, DAY_DOOR = 11, NIGHT_DOOR = 5;
    private static final int PERSONS = 6, STAIRS = 4, DEEDS = 40, KEPT = 3;
    private static final int PACES = 10, KINDS = 6;
    private static final int SERVANT = 1, CHILD = 2, CAT = 3, LOVER = 4, SLEEPLESS = 5;
    private static final int MOST_HOURS = 999, MOST_DAYS = 999;
    private static final int MOST_ERRANDS = 8, MOST_TO_ORDER = 6, MOST_WANDERED = 8, MOST_LOTS = 20;
    /** Days may be below 0; an answer with this much more is not mistaken for a refusal. */
    private static final int MORE = 1000;
    /** How many orders six things have: no search through orders goes on for longer. */
    private static final int ORDERS = 720;

    private final Strip[] rows = new Strip[ROWS];
    private final Strip[] texts = new Strip[TEXTS];
    private final House house = new House();
    private final House[] kept = new House[KEPT];
    private final boolean[] isKept = new boolean[KEPT];
    private final Reader reader = new Reader();
    private final Paths paths = new Paths();
    private final Paths others = new Paths();
    private final Errands errandRound = new Errands();
    private final Ages elders = new Ages();
    private final Wanderer wanderer = new Wanderer();
    private final int[] found = new int[FINDINGS + 1];
    private int finding = 0;
    private int asked = 0;
    private long upper = 0;
    private long lower = 1;

    public HouseOfHours() {
        for (int r = 0; r < ROWS; r++) {
            rows[r] = new Strip(ROW_SIZE);
        }
        for (int t = 0; t < TEXTS; t++) {
            texts[t] = new Strip(TEXT_SIZE);
        }
        for (int k = 0; k < KEPT; k++) {
            kept[k] = new House();
        }
    }

    // ---- 1 rows, texts, houses

    public int row(int r, int n) {
        if (!isRow(r) || n > ROW_SIZE) {
            return BAD;
        }
        if (n < 0) {
            return refuse(SIZE);
        }
        rows[r].make(n, 0);
        return n;
    }

    public int lay(int r, int i, int v) {
        if (!isRow(r)) {
            return BAD;
        }
        int wrong = wrongPlace(rows[r], i);
        if (wrong != 0) {
            return refuse(wrong);
        }
        int was = rows[r].cells[i];
        rows[r].cells[i] = v;
        return tell(was);
    }

    public int at(int r, int i) {
        if (!isRow(r)) {
            return BAD;
        }
        int wrong = wrongPlace(rows[r], i);
        return wrong != 0 ? refuse(wrong) : tell(rows[r].cells[i]);
    }

    public int tear(int r) {
        if (!isRow(r)) {
            return BAD;
        }
        if (!rows[r].isThere()) {
            return refuse(NOTHING);
        }
        rows[r].size = MISSING;
        return 1;
    }

    public int copy(int r, int i, int to, int j, int n) {
        if (!isRow(r) || !isRow(to)) {
            return BAD;
        }
        if (n < 0) {
            return refuse(SIZE);
        }
        if (!rows[r].isThere() || !rows[to].isThere()) {
            return refuse(NOTHING);
        }
        if (!rows[r].hasAsMany(i, n) || !rows[to].hasAsMany(j, n)) {
            return refuse(BEYOND);
        }
        System.arraycopy(rows[r].cells, i, rows[to].cells, j, n);
        return 1;
    }

    public int mean(int r) {
        if (!isRow(r)) {
            return BAD;
        }
        Strip row = rows[r];
        if (!row.isThere()) {
            return refuse(NOTHING);
        }
        if (row.size == 0) {
            return refuse(NOUGHT);
        }
        return tell((int) (row.sum() / row.size));
    }

    public int text(int t, int n) {
        if (!isText(t) || n > TEXT_SIZE) {
            return BAD;
        }
        if (n < 0) {
            return refuse(SIZE);
        }
        texts[t].make(n, Reader.BLANK);
        return n;
    }

    public int put(int t, int i, int v) {
        if (!isText(t)) {
            return BAD;
        }
        int wrong = wrongPlace(texts[t], i);
        if (wrong != 0) {
            return refuse(wrong);
        }
        int was = texts[t].cells[i];
        texts[t].cells[i] = (byte) v;
        return was + MORE;
    }

    public int fault(int t) {
        if (!isText(t)) {
            return BAD;
        }
        if (!texts[t].isThere()) {
            return refuse(NOTHING);
        }
        return reader.findFault(texts[t]);
    }

    public int house(int t) {
        if (!isText(t)) {
            return BAD;
        }
        if (!texts[t].isThere()) {
            return refuse(NOTHING);
        }
        if (reader.findFault(texts[t]) != NONE) {
            return STATE;
        }
        house.takeFrom(reader.draft);
        for (int k = 0; k < KEPT; k++) {
            isKept[k] = false;
        }
        return house.persons;
    }

    public int person(int p, int what) {
        if (!isPerson(p) || what < 0 || what > 5) {
            return BAD;
        }
        return tell(house.look(p, what));
    }

    public int door(int i) {
        if (!isRoom(i)) {
            return BAD;
        }
        return hasBit(house.shut, i) ? 1 : 0;
    }

    public int mark(int p, int kind) {
        if (!isPerson(p) || kind < 1 || kind >= KINDS) {
            return BAD;
        }
        if (!isOf(house.kind[p], kind)) {
            return refuse(UNLIKE);
        }
        switch (kind) {
            case SERVANT:
                return house.countStairsAt(house.room[p]);
            case CHILD:
                return Habits.hoursToNextDay(house, p);
            case CAT:
                return house.countShutAt(house.room[p]);
            case LOVER:
                return house.countIn(house.room[p]) - 1;
            default:
                paths.lookAs(house, house.kind[p]);
                return ROOMS - Integer.bitCount(paths.reach(house.room[p]));
        }
    }

    public int pace(int p, int v) {
        if (!isPerson(p) || v < 0 || v >= PACES) {
            return BAD;
        }
        if (house.deeds > 0) {
            return STATE;
        }
        int was = house.pace[p];
        house.pace[p] = v;
        return was;
    }

    // ---- 2 deeds

    public int step(int p, int room) {
        if (!isPerson(p) || !isRoom(room)) {
            return BAD;
        }
        if (!hasBit(house.roomsBeside(p), room)) {
            return STATE;
        }
        if (house.deeds >= DEEDS) {
            return FULL;
        }
        house.stepTo(p, room);
        return house.days[p] + MORE;
    }

    public int hour() {
        if (house.persons == 0) {
            return STATE;
        }
        if (house.deeds >= DEEDS) {
            return FULL;
        }
        return house.passHour();
    }

    public int turn(int i, int is) {
        if (!isRoom(i) || is < 0 || is > 1) {
            return BAD;
        }
        if (hasBit(house.shut, i) == (is == 1)) {
            return STATE;
        }
        if (house.deeds >= DEEDS) {
            return FULL;
        }
        house.turnDoor(i);
        return Integer.bitCount(house.shut);
    }

    public int undo(int n) {
        if (n < 0 || n > house.deeds) {
            return BAD;
        }
        int undone = house.deeds - n;
        house.takeBackTo(n);
        return undone;
    }

    public int keep(int k) {
        if (!isPlaceToKeep(k)) {
            return BAD;
        }
        if (house.persons == 0) {
            return STATE;
        }
        kept[k].takeFrom(house);
        isKept[k] = true;
        return house.deeds;
    }

    public int on(int k) {
        if (!isPlaceToKeep(k)) {
            return BAD;
        }
        if (!isKept[k]) {
            return refuse(NOTHING);
        }
        house.takeFrom(kept[k]);
        return house.deeds;
    }

    // ---- 3 ways (by STEPS)

    public int way(int p, int room, int r) {
        if (!isPerson(p) || !isRoom(room) || !isRow(r)) {
            return BAD;
        }
        paths.lookAs(house, house.kind[p]);
        // All go either way, so how far it is from the goal is how far it is to it.
        paths.measure(room);
        int steps = paths.far[house.room[p]];
        if (steps < 0) {
            return NONE;
        }
        paths.writeWay(house.room[p], steps, rows[r]);
        return steps;
    }

    public int within(int p, int n) {
        if (!isPerson(p) || n < 0 || n > ROOMS) {
            return BAD;
        }
        paths.lookAs(house, house.kind[p]);
        paths.measure(house.room[p]);
        return paths.roomsAsNear(n);
    }

    public int errands(int p, int r) {
        if (!isPerson(p) || !isRow(r)) {
            return BAD;
        }
        int wrong = wrongErrands(rows[r], MOST_ERRANDS);
        if (wrong != 0) {
            return refuse(wrong);
        }
        paths.lookAs(house, house.kind[p]);
        return paths.stepsAlong(house.room[p], rows[r]);
    }

    public int best(int p, int r, int to) {
        if (!isPerson(p) || !isRow(r) || !isRow(to)) {
            return BAD;
        }
        int wrong = wrongErrands(rows[r], MOST_TO_ORDER);
        if (wrong != 0) {
            return refuse(wrong);
        }
        paths.lookAs(house, house.kind[p]);
        if (!errandRound.measure(paths, house.room[p], rows[r])) {
            return NONE;
        }
        int steps = errandRound.findFewest();
        errandRound.writeOrder(rows[to]);
        return steps;
    }

    public int middle(int p, int q) {
        if (!areTwo(p, q)) {
            return BAD;
        }
        paths.lookAs(house, house.kind[p]);
        paths.measure(house.room[p]);
        others.lookAs(house, house.kind[q]);
        others.measure(house.room[q]);
        int room = Paths.nearestToBoth(paths, others);
        if (room != NONE) {
            asked = paths.far[room] + others.far[room];
        }
        return room;
    }

    public int bar(int p, int room) {
        if (!isPerson(p) || !isRoom(room) || house.room[p] == room) {
            return BAD;
        }
        int doors = paths.fewestBars(house, p, room);
        if (doors == NONE) {
            return NONE;
        }
        asked = doors;
        return Integer.bitCount(doors);
    }

    public int parts(int p) {
        if (!isPerson(p)) {
            return BAD;
        }
        paths.lookAs(house, house.kind[p]);
        return paths.countParts();
    }

    // ---- 4 habits

    public int later(int p, int n) {
        if (!isPerson(p) || n < 0 || n > MOST_HOURS) {
            return BAD;
        }
        asked = house.days[p] + Habits.daysOlder(house, p, n) + MORE;
        return Habits.roomBehind(house, p, n);
    }

    public int when(int p, int room) {
        if (!isPerson(p) || !isRoom(room)) {
            return BAD;
        }
        return Habits.firstIn(house, p, room);
    }

    public int meet(int p, int q) {
        if (!areTwo(p, q)) {
            return BAD;
        }
        int hours = Habits.firstTogether(house, p, q, house.pace[p]);
        if (hours != NONE) {
            asked = Habits.roomBehind(house, p, hours);
        }
        return hours;
    }

    public int crowd() {
        if (house.persons == 0) {
            return STATE;
        }
        int hours = Habits.fullestHour(house);
        asked = Habits.mostTogether(house, hours);
        return hours;
    }

    public int change(int p, int q) {
        if (!areTwo(p, q)) {
            return BAD;
        }
        int pace = Habits.nearestPaceToMeet(house, p, q);
        if (pace == NONE) {
            return NONE;
        }
        asked = pace;
        return Math.abs(pace - house.pace[p]);
    }

    public int round() {
        if (house.persons == 0) {
            return STATE;
        }
        return Habits.hoursToReturn(house);
    }

    // ---- 5 ages

    public int paces(int room, int n, int days) {
        if (!isRoom(room) || n < 0 || n > MOST_HOURS || days < 0 || days > MOST_DAYS) {
            return BAD;
        }
        int bits = 0;
        for (int v = 0; v < PACES; v++) {
            if (Habits.daysFrom(room, v, n) == days) {
                bits |= 1 << v;
            }
        }
        return bits;
    }

    public int ages(int r, int n) {
        if (!isRow(r) || n < 0 || n > MOST_HOURS) {
            return BAD;
        }
        if (house.persons == 0) {
            return STATE;
        }
        if (!rows[r].isThere()) {
            return refuse(NOTHING);
        }
        if (rows[r].size != house.persons) {
            return refuse(SIZE);
        }
        elders.compare(house, n, rows[r]);
        upper = elders.fitting;
        lower = 1;
        return tell(elders.first);
    }

    // ---- 6 chances, lots

    public int odds(int p, int room, int n) {
        if (!isPerson(p) || !isRoom(room) || n < 0 || n > MOST_WANDERED) {
            return BAD;
        }
        paths.lookAs(house, house.kind[p]);
        wanderer.wander(paths, house.room[p], n);
        long part = commonPart(wanderer.weight[room], wanderer.whole);
        upper = wanderer.weight[room] / part;
        lower = wanderer.whole / part;
        return 1;
    }

    public int lots(int n, int seed) {
        if (n < 1 || n > MOST_LOTS || seed < 1 || seed > House.LOT_END - 1) {
            return BAD;
        }
        if (house.persons == 0) {
            return STATE;
        }
        if (house.deeds + n > DEEDS) {
            return FULL;
        }
        house.goByLots(n, seed);
        return house.countIn(0);
    }

    // ---- 7 what is told

    public int asked() {
        return asked;
    }

    public long upper() {
        return upper;
    }

    public long lower() {
        return lower;
    }

    public int count(int what) {
        switch (what) {
            case 0:
                return house.persons;
            case 1:
                return house.stairs;
            case 2:
                return Integer.bitCount(house.shut);
            case 3:
                return house.hours;
            case 4:
                return house.deeds;
            case 5:
                return house.countServants();
            case 6:
                return countThere(rows);
            case 7:
                return countThere(texts);
            case 8:
                return countKept();
            default:
                return BAD;
        }
    }

    public int finding() {
        return finding;
    }

    public int findings(int f) {
        if (f < 1 || f > FINDINGS) {
            return BAD;
        }
        return found[f];
    }

    public long digest() {
        long h = 17;
        for (int what = 0; what <= 8; what++) {
            h = 31 * h + count(what);
        }
        for (int p = 0; p < house.persons; p++) {
            for (int what = 0; what <= 5; what++) {
                h = 31 * h + house.look(p, what);
            }
        }
        for (int k = 0; k < KEPT; k++) {
            h = 31 * h + (isKept[k] ? kept[k].deeds : MISSING);
        }
        for (int r = 0; r < ROWS; r++) {
            h = rows[r].foldInto(h);
        }
        for (int t = 0; t < TEXTS; t++) {
            h = texts[t].foldInto(h);
        }
        return h;
    }

    // ---- what the calls share

    private static boolean isRow(int r) {
        return r >= 0 && r < ROWS;
    }

    private static boolean isText(int t) {
        return t >= 0 && t < TEXTS;
    }

    /** DOORS bear the numbers of ROOMS, so this asks for both. */
    private static boolean isRoom(int room) {
        return room >= 0 && room < ROOMS;
    }

    private static boolean isPlaceToKeep(int k) {
        return k >= 0 && k < KEPT;
    }

    private static boolean hasBit(int bits, int i) {
        return (bits >> i & 1) == 1;
    }

    private static boolean isOf(int own, int kind) {
        return own == kind
            || kind == SERVANT && own == LOVER
            || kind == CHILD && own == SLEEPLESS;
    }

    private boolean isPerson(int p) {
        return p >= 0 && p < house.persons;
    }

    private boolean areTwo(int p, int q) {
        return isPerson(p) && isPerson(q) && p != q;
    }

    private int refuse(int which) {
        if (which >= 1 && which <= FINDINGS) {
            finding = which;
            found[which]++;
        }
        return FINDING;
    }

    private int tell(int v) {
        asked = v;
        return 1;
    }

    /** The FINDING for which a place of a ROW or TEXT is refused; 0 if it is there. */
    private static int wrongPlace(Strip strip, int i) {
        if (!strip.isThere()) {
            return NOTHING;
        }
        return strip.has(i) ? 0 : BEYOND;
    }

    /** The FINDING for which a ROW is refused as errands; 0 if it is not. */
    private static int wrongErrands(Strip row, int most) {
        if (!row.isThere()) {
            return NOTHING;
        }
        if (row.size > most) {
            return SIZE;
        }
        for (int i = 0; i < row.size; i++) {
            if (!isRoom(row.cells[i])) {
                return UNLIKE;
            }
        }
        return 0;
    }

    private static int countThere(Strip[] strips) {
        int n = 0;
        for (int i = 0; i < strips.length; i++) {
            if (strips[i].isThere()) {
                n++;
            }
        }
        return n;
    }

    private int countKept() {
        int n = 0;
        for (int k = 0; k < KEPT; k++) {
            if (isKept[k]) {
                n++;
            }
        }
        return n;
    }

    /** The greatest number by which both can be shared; 1 if both are 0. */
    private static long commonPart(long a, long b) {
        // Each two turns halve the numbers at least, so a long has its end far below the bound.
        for (int turn = 0; turn < 200 && b != 0; turn++) {
            long rest = a % b;
            a = b;
            b = rest;
        }
        return a == 0 ? 1 : a;
    }

    /** A ROW or a TEXT; it keeps its cells while it is missing, to be made anew in them. */
    private static final class Strip {
        final int[] cells;
        int size = MISSING;

        Strip(int most) {
            cells = new int[Math.max(0, most)];
        }

        boolean isThere() {
            return size >= 0;
        }

        boolean has(int i) {
            return i >= 0 && i < size;
        }

        boolean hasAsMany(int i, int n) {
            // Not i + n: that could wrap around.
            return i >= 0 && n >= 0 && i <= size - n;
        }

        void make(int n, int v) {
            Arrays.fill(cells, v);
            size = Math.min(n, cells.length);
        }

        long sum() {
            long all = 0;
            for (int i = 0; i < size; i++) {
                all += cells[i];
            }
            return all;
        }

        long foldInto(long h) {
            h = 31 * h + size;
            for (int i = 0; i < size; i++) {
                h = 31 * h + cells[i];
            }
            return h;
        }
    }

    /** Reads a TEXT into a draft of a HOUSE, up to the first FAULT. */
    private static final class Reader {
        static final int BLANK = 32, STAIR_SIGN = 116, SHUT_SIGN = 120;
        static final int FIRST_ROOM = 65, FIRST_FIGURE = 48;

        final House draft = new House();
        private int place = 0;

        int findFault(Strip text) {
            draft.clear();
            place = 0;
            // Each turn takes one sign at least.
            for (int turn = 0; turn < TEXT_SIZE && place < text.size; turn++) {
                int wrong = readItem(text, text.cells[place]);
                if (wrong != NONE) {
                    return wrong;
                }
            }
            return draft.persons == 0 ? text.size : NONE;
        }

        private int readItem(Strip text, int sign) {
            if (sign == BLANK) {
                place++;
                return NONE;
            }
            if (sign == STAIR_SIGN) {
                return readStair(text);
            }
            if (sign == SHUT_SIGN) {
                return readShutDoor(text);
            }
            int kind = kindOf(sign);
            return kind < 0 ? place : readPerson(text, kind);
        }

        private int readPerson(Strip text, int kind) {
            if (draft.persons >= PERSONS) {
                return place;
            }
            int room = roomAt(text, place + 1);
            if (room < 0) {
                return place + 1;
            }
            int pace = figureAt(text, place + 2);
            if (pace < 0) {
                return place + 2;
            }
            draft.addPerson(kind, room, pace);
            place += 3;
            return NONE;
        }

        private int readStair(Strip text) {
            if (draft.stairs >= STAIRS) {
                return place;
            }
            int one = roomAt(text, place + 1);
            if (one < 0) {
                return place + 1;
            }
            int other = roomAt(text, place + 2);
            if (other < 0 || other == one) {
                return place + 2;
            }
            draft.addStair(one, other);
            place += 3;
            return NONE;
        }

        private int readShutDoor(Strip text) {
            int room = roomAt(text, place + 1);
            if (room < 0 || hasBit(draft.shut, room)) {
                return place + 1;
            }
            draft.shut |= 1 << room;
            place += 2;
            return NONE;
        }

        private static int kindOf(int sign) {
            switch (sign) {
                case 112:
                    return 0;
                case 115:
                    return SERVANT;
                case 99:
                    return CHILD;
                case 107:
                    return CAT;
                case 108:
                    return LOVER;
                case 110:
                    return SLEEPLESS;
                default:
                    return -1;
            }
        }

        /** Below 0, if there is no such sign, or no sign. */
        private static int roomAt(Strip text, int i) {
            if (!text.has(i) || !isRoom(text.cells[i] - FIRST_ROOM)) {
                return -1;
            }
            return text.cells[i] - FIRST_ROOM;
        }

        private static int figureAt(Strip text, int i) {
            if (!text.has(i) || text.cells[i] > FIRST_FIGURE + 9) {
                return -1;
            }
            return text.cells[i] - FIRST_FIGURE;
        }
    }

    /** PERSONS, DOORS, STAIRS, the HOUR, and the DEEDS with what is needed to take them back. */
    private static final class House {
        static final int STEP = 0, HOUR = 1, TURN = 2;
        static final int LOT_END = 2147483647, LOT_TIMES = 48271;

        int persons = 0;
        int stairs = 0;
        int shut = 0;
        int hours = 0;
        int deeds = 0;
        final int[] kind = new int[PERSONS];
        final int[] room = new int[PERSONS];
        final int[] pace = new int[PERSONS];
        final int[] days = new int[PERSONS];
        final int[] steps = new int[PERSONS];
        final int[] stairFrom = new int[STAIRS];
        final int[] stairTo = new int[STAIRS];
        final int[] deedWhat = new int[DEEDS];
        /** The PERSON that made the STEP, or the DOOR that was turned. */
        final int[] deedOf = new int[DEEDS];
        final int[] deedFrom = new int[DEEDS];
        final int[] deedDays = new int[DEEDS];

        void clear() {
            persons = 0;
            stairs = 0;
            shut = 0;
            hours = 0;
            deeds = 0;
        }

        void takeFrom(House other) {
            persons = other.persons;
            stairs = other.stairs;
            shut = other.shut;
            hours = other.hours;
            deeds = other.deeds;
            System.arraycopy(other.kind, 0, kind, 0, PERSONS);
            System.arraycopy(other.room, 0, room, 0, PERSONS);
            System.arraycopy(other.pace, 0, pace, 0, PERSONS);
            System.arraycopy(other.days, 0, days, 0, PERSONS);
            System.arraycopy(other.steps, 0, steps, 0, PERSONS);
            System.arraycopy(other.stairFrom, 0, stairFrom, 0, STAIRS);
            System.arraycopy(other.stairTo, 0, stairTo, 0, STAIRS);
            System.arraycopy(other.deedWhat, 0, deedWhat, 0, DEEDS);
            System.arraycopy(other.deedOf, 0, deedOf, 0, DEEDS);
            System.arraycopy(other.deedFrom, 0, deedFrom, 0, DEEDS);
            System.arraycopy(other.deedDays, 0, deedDays, 0, DEEDS);
        }

        void addPerson(int itsKind, int itsRoom, int itsPace) {
            if (persons < 0 || persons >= PERSONS) {
                return;
            }
            kind[persons] = itsKind;
            room[persons] = itsRoom;
            pace[persons] = itsPace;
            days[persons] = 0;
            steps[persons] = 0;
            persons++;
        }

        void addStair(int one, int other) {
            if (stairs < 0 || stairs >= STAIRS) {
                return;
            }
            stairFrom[stairs] = one;
            stairTo[stairs] = other;
            stairs++;
        }

        int look(int p, int what) {
            switch (what) {
                case 0:
                    return kind[p];
                case 1:
                    return room[p];
                case 2:
                    return pace[p];
                case 3:
                    return days[p];
                case 4:
                    return roomsBeside(p);
                default:
                    return steps[p];
            }
        }

        int countIn(int where) {
            int n = 0;
            for (int p = 0; p < persons; p++) {
                if (room[p] == where) {
                    n++;
                }
            }
            return n;
        }

        int countServants() {
            int n = 0;
            for (int p = 0; p < persons; p++) {
                if (isOf(kind[p], SERVANT)) {
                    n++;
                }
            }
            return n;
        }

        int countStairsAt(int where) {
            int n = 0;
            for (int s = 0; s < stairs; s++) {
                if (stairFrom[s] == where || stairTo[s] == where) {
                    n++;
                }
            }
            return n;
        }

        int countShutAt(int where) {
            int doors = 1 << where | 1 << doorBehind(where);
            return Integer.bitCount(shut & doors);
        }

        static int doorBehind(int where) {
            return (where + ROOMS - 1) % ROOMS;
        }

        /** The DOORS (bits) through which one of a KIND can go. */
        int doorsFor(int who) {
            int open = ALL_DOORS & ~shut;
            switch (who) {
                case CAT:
                    return ALL_DOORS;
                case CHILD:
                    return open & ~(1 << NIGHT_DOOR | 1 << DAY_DOOR);
                case SLEEPLESS:
                    return open & ~(1 << NIGHT_DOOR);
                default:
                    return open;
            }
        }

        /** The ROOMS (bits) that are one STEP from a ROOM for one of a KIND, by these DOORS. */
        int roomsBesideBy(int doors, int who, int where) {
            int bits = 0;
            if (hasBit(doors, where)) {
                bits |= 1 << (where + 1) % ROOMS;
            }
            int behind = doorBehind(where);
            if (hasBit(doors, behind)) {
                bits |= 1 << behind;
            }
            return isOf(who, SERVANT) ? bits | roomsByStairs(where) : bits;
        }

        private int roomsByStairs(int where) {
            int bits = 0;
            for (int s = 0; s < stairs; s++) {
                if (stairFrom[s] == where) {
                    bits |= 1 << stairTo[s];
                }
                if (stairTo[s] == where) {
                    bits |= 1 << stairFrom[s];
                }
            }
            return bits;
        }

        int roomsBeside(int p) {
            return roomsBesideBy(doorsFor(kind[p]), kind[p], room[p]);
        }

        void stepTo(int p, int to) {
            int from = room[p];
            int older = 0;
            // By a STAIR between these two ROOMS no DAY goes by, so the DOOR must let one through.
            if (hasBit(doorsFor(kind[p]), DAY_DOOR)) {
                older = from == ROOMS - 1 && to == 0 ? 1 : from == 0 && to == ROOMS - 1 ? -1 : 0;
            }
            room[p] = to;
            days[p] += older;
            steps[p]++;
            note(STEP, p, from, older);
        }

        int passHour() {
            int moved = 0;
            for (int p = 0; p < persons; p++) {
                int on = room[p] + pace[p];
                days[p] += on / ROOMS;
                room[p] = on % ROOMS;
                if (pace[p] > 0) {
                    moved++;
                }
            }
            hours++;
            note(HOUR, 0, 0, 0);
            return moved;
        }

        void turnDoor(int i) {
            shut ^= 1 << i;
            note(TURN, i, 0, 0);
        }

        private void note(int what, int of, int from, int older) {
            if (deeds < 0 || deeds >= DEEDS) {
                return;
            }
            deedWhat[deeds] = what;
            deedOf[deeds] = of;
            deedFrom[deeds] = from;
            deedDays[deeds] = older;
            deeds++;
        }

        void takeBackTo(int n) {
            for (int d = deeds - 1; d >= n && d >= 0; d--) {
                takeBack(d);
                deeds = d;
            }
        }

        private void takeBack(int d) {
            int of = deedOf[d];
            switch (deedWhat[d]) {
                case STEP:
                    room[of] = deedFrom[d];
                    days[of] -= deedDays[d];
                    steps[of]--;
                    break;
                case HOUR:
                    takeBackHour();
                    break;
                default:
                    shut ^= 1 << of;
                    break;
            }
        }

        /** No PACE changes while there are DEEDS, so all went as far as they go now. */
        private void takeBackHour() {
            for (int p = 0; p < persons; p++) {
                int back = room[p] - pace[p];
                if (back < 0) {
                    back += ROOMS;
                    days[p]--;
                }
                room[p] = back;
            }
            hours--;
        }

        void goByLots(int n, int seed) {
            long lot = seed;
            for (int i = 0; i < n && persons > 0; i++) {
                lot = lot * LOT_TIMES % LOT_END;
                int who = (int) (lot % persons);
                int to = roomByLot(roomsBeside(who), lot / 16);
                if (to == NONE) {
                    passHour();
                } else {
                    stepTo(who, to);
                }
            }
        }

        private static int roomByLot(int rooms, long lot) {
            int many = Integer.bitCount(rooms);
            if (many == 0) {
                return NONE;
            }
            long ahead = lot % many;
            for (int to = 0; to < ROOMS; to++) {
                if (hasBit(rooms, to)) {
                    if (ahead == 0) {
                        return to;
                    }
                    ahead--;
                }
            }
            return NONE;
        }
    }

    /** The ROOMS as they lie for one of a KIND: from which to which there is a STEP. */
    private static final class Paths {
        final int[] beside = new int[ROOMS];
        /** By how many STEPS each ROOM is away from the one that was measured; NONE: by none. */
        final int[] far = new int[ROOMS];

        void lookAs(House house, int who) {
            lookBy(house, who, house.doorsFor(who));
        }

        private void lookBy(House house, int who, int doors) {
            for (int room = 0; room < ROOMS; room++) {
                beside[room] = house.roomsBesideBy(doors, who, room);
            }
        }

        /** All ROOMS (bits) to which one comes from a ROOM. */
        int reach(int from) {
            int seen = 1 << from;
            int done = 0;
            for (int turn = 0; turn < ROOMS && seen != done; turn++) {
                int next = lowestOf(seen & ~done);
                done |= 1 << next;
                seen |= beside[next];
            }
            return seen;
        }

        /** The lowest ROOM of some; 0 if there is none, so that it always is a ROOM. */
        private static int lowestOf(int rooms) {
            int low = rooms & ALL_DOORS & -rooms;
            return low == 0 ? 0 : Integer.bitCount(low - 1);
        }

        void measure(int from) {
            Arrays.fill(far, NONE);
            int seen = 0;
            int edge = 1 << from;
            for (int steps = 0; steps < ROOMS && edge != 0; steps++) {
                seen |= edge;
                edge = markEdge(edge, steps) & ~seen;
            }
        }

        private int markEdge(int edge, int steps) {
            int further = 0;
            for (int room = 0; room < ROOMS; room++) {
                if (hasBit(edge, room)) {
                    far[room] = steps;
                    further |= beside[room];
                }
            }
            return further;
        }

        /** Goes down from where the goal, which was measured, is as many STEPS away. */
        void writeWay(int from, int steps, Strip row) {
            row.make(steps + 1, 0);
            int room = from;
            for (int i = 0; i < row.size; i++) {
                row.cells[i] = room;
                room = firstAsFar(beside[room], steps - i - 1);
            }
        }

        private int firstAsFar(int rooms, int steps) {
            for (int room = 0; room < ROOMS; room++) {
                if (hasBit(rooms, room) && far[room] == steps) {
                    return room;
                }
            }
            return 0;
        }

        int roomsAsNear(int n) {
            int bits = 0;
            for (int room = 0; room < ROOMS; room++) {
                if (far[room] >= 0 && far[room] <= n) {
                    bits |= 1 << room;
                }
            }
            return bits;
        }

        int stepsAlong(int from, Strip goals) {
            int all = 0;
            int room = from;
            for (int i = 0; i < goals.size; i++) {
                measure(room);
                room = goals.cells[i];
                if (far[room] < 0) {
                    return NONE;
                }
                all += far[room];
            }
            return all;
        }

        static int nearestToBoth(Paths one, Paths other) {
            int nearest = NONE;
            int least = 0;
            for (int room = 0; room < ROOMS; room++) {
                boolean both = one.far[room] >= 0 && other.far[room] >= 0;
                int steps = one.far[room] + other.far[room];
                if (both && (nearest == NONE || steps < least)) {
                    nearest = room;
                    least = steps;
                }
            }
            return nearest;
        }

        int countParts() {
            int parts = 0;
            int seen = 0;
            for (int room = 0; room < ROOMS; room++) {
                if (!hasBit(seen, room)) {
                    parts++;
                    seen |= reach(room);
                }
            }
            return parts;
        }

        /** The fewest DOORS (bits), of as few the least number; NONE: one comes there all the same. */
        int fewestBars(House house, int p, int room) {
            int who = house.kind[p];
            int from = house.room[p];
            int doors = house.doorsFor(who);
            // What is SHUT is no bar to a CAT.
            int toShut = who == CAT ? 0 : doors;
            if (comesBy(house, who, doors & ~toShut, from, room)) {
                return NONE;
            }
            int fewest = toShut;
            int many = Integer.bitCount(toShut);
            for (int set = 0; set <= ALL_DOORS && many > 0; set++) {
                boolean fewer = (set & ~toShut) == 0 && Integer.bitCount(set) < many;
                if (fewer && !comesBy(house, who, doors & ~set, from, room)) {
                    fewest = set;
                    many = Integer.bitCount(set);
                }
            }
            return fewest;
        }

        private boolean comesBy(House house, int who, int doors, int from, int to) {
            lookBy(house, who, doors);
            return hasBit(reach(from), to);
        }
    }

    /** The orders of up to six things, from the first by numbers on. */
    private static final class Orders {
        final int[] order = new int[MOST_TO_ORDER];
        int size = 0;

        void begin(int n) {
            size = Math.max(0, Math.min(n, MOST_TO_ORDER));
            for (int i = 0; i < size; i++) {
                order[i] = i;
            }
        }

        /** Whether there was a next one. */
        boolean goOn() {
            int i = size - 2;
            while (i >= 0 && order[i] > order[i + 1]) {
                i--;
            }
            if (i < 0) {
                return false;
            }
            int j = size - 1;
            while (j > i && order[j] < order[i]) {
                j--;
            }
            swap(i, j);
            int a = i + 1;
            for (int b = size - 1; a < b; b--) {
                swap(a, b);
                a++;
            }
            return true;
        }

        private void swap(int i, int j) {
            int was = order[i];
            order[i] = order[j];
            order[j] = was;
        }
    }

    /** The errands of one call and the best order of them. */
    private static final class Errands {
        private final Orders orders = new Orders();
        private final int[] fewestOrder = new int[MOST_TO_ORDER];
        private final int[] fromHome = new int[MOST_TO_ORDER];
        private final int[][] between = new int[MOST_TO_ORDER][MOST_TO_ORDER];
        private int size = 0;

        /** Whether one comes to all of them. */
        boolean measure(Paths paths, int home, Strip goals) {
            size = Math.max(0, Math.min(goals.size, MOST_TO_ORDER));
            paths.measure(home);
            for (int i = 0; i < size; i++) {
                fromHome[i] = paths.far[goals.cells[i]];
                if (fromHome[i] < 0) {
                    return false;
                }
            }
            for (int i = 0; i < size; i++) {
                paths.measure(goals.cells[i]);
                for (int j = 0; j < size; j++) {
                    between[i][j] = paths.far[goals.cells[j]];
                }
            }
            return true;
        }

        int findFewest() {
            int fewest = 0;
            orders.begin(size);
            for (int n = 0; n < ORDERS; n++) {
                int steps = stepsInOrder();
                if (n == 0 || steps < fewest) {
                    fewest = steps;
                    System.arraycopy(orders.order, 0, fewestOrder, 0, MOST_TO_ORDER);
                }
                if (!orders.goOn()) {
                    break;
                }
            }
            return fewest;
        }

        private int stepsInOrder() {
            if (size == 0) {
                return 0;
            }
            int steps = fromHome[orders.order[0]];
            for (int i = 1; i < size; i++) {
                steps += between[orders.order[i - 1]][orders.order[i]];
            }
            return steps;
        }

        void writeOrder(Strip row) {
            row.make(size, 0);
            for (int i = 0; i < row.size; i++) {
                row.cells[i] = fewestOrder[i];
            }
        }
    }

    /** What all do by HABIT: behind some HOURS each is as many times its PACE further on. */
    private static final class Habits {
        static int daysFrom(int room, int pace, int hours) {
            return (room + hours * pace) / ROOMS;
        }

        static int daysOlder(House house, int p, int hours) {
            return daysFrom(house.room[p], house.pace[p], hours);
        }

        static int roomBehind(House house, int p, int hours) {
            return (house.room[p] + hours * house.pace[p]) % ROOMS;
        }

        /** NONE, if one never goes on. */
        static int hoursToNextDay(House house, int p) {
            for (int hours = 1; hours <= ROOMS; hours++) {
                if (daysOlder(house, p, hours) > 0) {
                    return hours;
                }
            }
            return NONE;
        }

        static int firstIn(House house, int p, int room) {
            for (int hours = 0; hours < ROOMS; hours++) {
                if (roomBehind(house, p, hours) == room) {
                    return hours;
                }
            }
            return NONE;
        }

        /** When p, were its PACE this one, and q are first in one ROOM. */
        static int firstTogether(House house, int p, int q, int pace) {
            for (int hours = 0; hours < ROOMS; hours++) {
                if ((house.room[p] + hours * pace) % ROOMS == roomBehind(house, q, hours)) {
                    return hours;
                }
            }
            return NONE;
        }

        static int nearestPaceToMeet(House house, int p, int q) {
            int nearest = NONE;
            int least = PACES;
            for (int pace = 0; pace < PACES; pace++) {
                int by = Math.abs(pace - house.pace[p]);
                if (by < least && firstTogether(house, p, q, pace) != NONE) {
                    nearest = pace;
                    least = by;
                }
            }
            return nearest;
        }

        static int fullestHour(House house) {
            int fullest = 0;
            int most = 0;
            for (int hours = 0; hours < ROOMS; hours++) {
                int many = mostTogether(house, hours);
                if (many > most) {
                    fullest = hours;
                    most = many;
                }
            }
            return fullest;
        }

        static int mostTogether(House house, int hours) {
            int most = 0;
            for (int p = 0; p < house.persons; p++) {
                int many = 0;
                for (int q = 0; q < house.persons; q++) {
                    if (roomBehind(house, q, hours) == roomBehind(house, p, hours)) {
                        many++;
                    }
                }
                most = Math.max(most, many);
            }
            return most;
        }

        static int hoursToReturn(House house) {
            for (int hours = 1; hours < ROOMS; hours++) {
                if (areAllBack(house, hours)) {
                    return hours;
                }
            }
            // Behind twelve HOURS each has gone round as often as its PACE tells.
            return ROOMS;
        }

        private static boolean areAllBack(House house, int hours) {
            for (int p = 0; p < house.persons; p++) {
                if (roomBehind(house, p, hours) != house.room[p]) {
                    return false;
                }
            }
            return true;
        }
    }

    /** In which orders the PERSONS have the ages that a ROW tells. */
    private static final class Ages {
        private final Orders orders = new Orders();
        private final int[] older = new int[PERSONS];
        int fitting = 0;
        int first = NONE;

        void compare(House house, int hours, Strip row) {
            for (int p = 0; p < house.persons; p++) {
                older[p] = Habits.daysOlder(house, p, hours);
            }
            fitting = 0;
            first = NONE;
            orders.begin(house.persons);
            for (int n = 0; n < ORDERS; n++) {
                if (fits(row)) {
                    first = fitting == 0 ? orderAsNumber() : first;
                    fitting++;
                }
                if (!orders.goOn()) {
                    break;
                }
            }
        }

        private boolean fits(Strip row) {
            for (int i = 0; i < orders.size && i < row.size; i++) {
                if (older[orders.order[i]] != row.cells[i]) {
                    return false;
                }
            }
            return true;
        }

        private int orderAsNumber() {
            int number = 0;
            for (int i = 0; i < orders.size; i++) {
                number = PERSONS * number + orders.order[i];
            }
            return number;
        }
    }

    /** Chances in weights of a whole: 60 for each STEP, which up to six ROOMS share without a rest. */
    private static final class Wanderer {
        static final long SHARES = 60;

        final long[] weight = new long[ROOMS];
        private final long[] next = new long[ROOMS];
        long whole = 1;

        void wander(Paths paths, int from, int steps) {
            for (int room = 0; room < ROOMS; room++) {
                weight[room] = room == from ? 1 : 0;
            }
            whole = 1;
            for (int i = 0; i < steps; i++) {
                wanderOn(paths);
                whole *= SHARES;
            }
        }

        private void wanderOn(Paths paths) {
            Arrays.fill(next, 0);
            for (int room = 0; room < ROOMS; room++) {
                spread(weight[room] * SHARES, room, paths.beside[room]);
            }
            System.arraycopy(next, 0, weight, 0, ROOMS);
        }

        private void spread(long shares, int room, int rooms) {
            int many = Integer.bitCount(rooms);
            if (many == 0) {
                next[room] += shares;
                return;
            }
            for (int to = 0; to < ROOMS; to++) {
                if (hasBit(rooms, to)) {
                    next[to] += shares / many;
                }
            }
        }
    }
}
