import java.math.BigInteger;
import java.util.ArrayList;
import java.util.Arrays;
import java.util.List;
import java.util.TreeSet;

/**
 * A second house by the same document, written for plainness alone and by other means than the class: a state for
 * each deed instead of taking deeds back, sets instead of bits, searches through all there is.
 */
final class Model {
    private static final int BAD = -1, FULL = -2, FINDING = -3, STATE = -4, NONE = -9;

    private static final class One {
        char letter;
        int room, pace, days, steps;

        One like() {
            One o = new One();
            o.letter = letter;
            o.room = room;
            o.pace = pace;
            o.days = days;
            o.steps = steps;
            return o;
        }

        int kind() {
            return "psckln".indexOf(letter);
        }

        boolean climbs() {
            return letter == 's' || letter == 'l';
        }
    }

    /** What is at one time; it is never changed once it stands in a history, but for paces. */
    private static final class Now {
        List<One> all = new ArrayList<>();
        List<int[]> stairs = new ArrayList<>();
        TreeSet<Integer> shut = new TreeSet<>();
        int hour;

        Now like() {
            Now n = new Now();
            for (One o : all) {
                n.all.add(o.like());
            }
            n.stairs.addAll(stairs);
            n.shut.addAll(shut);
            n.hour = hour;
            return n;
        }

        boolean throughDoor(One o, int door) {
            switch (o.letter) {
                case 'k':
                    return true;
                case 'c':
                    return door != 5 && door != 11 && !shut.contains(door);
                case 'n':
                    return door != 5 && !shut.contains(door);
                default:
                    return !shut.contains(door);
            }
        }

        boolean byDoor(One o, int a, int b) {
            return (a + 1) % 12 == b && throughDoor(o, a) || (b + 1) % 12 == a && throughDoor(o, b);
        }

        boolean goes(One o, int a, int b) {
            if (byDoor(o, a, b)) {
                return true;
            }
            for (int[] s : stairs) {
                if (o.climbs() && (s[0] == a && s[1] == b || s[0] == b && s[1] == a)) {
                    return true;
                }
            }
            return false;
        }

        List<Integer> from(One o, int a) {
            List<Integer> to = new ArrayList<>();
            for (int b = 0; b < 12; b++) {
                if (goes(o, a, b)) {
                    to.add(b);
                }
            }
            return to;
        }

        /** All fewest ways between all rooms, by letting ways join. 99: none. */
        int[][] ways(One o) {
            int[][] w = new int[12][12];
            for (int a = 0; a < 12; a++) {
                for (int b = 0; b < 12; b++) {
                    w[a][b] = a == b ? 0 : goes(o, a, b) ? 1 : 99;
                }
            }
            for (int m = 0; m < 12; m++) {
                for (int a = 0; a < 12; a++) {
                    for (int b = 0; b < 12; b++) {
                        w[a][b] = Math.min(w[a][b], w[a][m] + w[m][b]);
                    }
                }
            }
            for (int[] row : w) {
                for (int b = 0; b < 12; b++) {
                    row[b] = Math.min(99, row[b]);
                }
            }
            return w;
        }
    }

    private List<Now> past = new ArrayList<>(List.of(new Now()));
    private final List<List<Now>> kept = new ArrayList<>(Arrays.asList(null, null, null));
    private final int[][] rows = new int[6][];
    private final byte[][] texts = new byte[4][];
    private final int[] found = new int[6];
    private int finding, asked;
    private long upper, lower = 1;

    private Now now() {
        return past.get(past.size() - 1);
    }

    private int deeds() {
        return past.size() - 1;
    }

    private Now deed() {
        past.add(now().like());
        return now();
    }

    private One one(int p) {
        return p < 0 || p >= now().all.size() ? null : now().all.get(p);
    }

    private static boolean in(int v, int low, int high) {
        return low <= v && v <= high;
    }

    private int refuse(int f) {
        finding = f;
        found[f]++;
        return FINDING;
    }

    private int tell(long v) {
        asked = (int) v;
        return 1;
    }

    public int row(int r, int n) {
        if (!in(r, 0, 5) || n > 40) return BAD;
        if (n < 0) return refuse(5);
        rows[r] = new int[n];
        return n;
    }

    public int lay(int r, int i, int v) {
        int answer = at(r, i);
        if (answer == 1) rows[r][i] = v;
        return answer;
    }

    public int at(int r, int i) {
        if (!in(r, 0, 5)) return BAD;
        if (rows[r] == null) return refuse(1);
        if (!in(i, 0, rows[r].length - 1)) return refuse(2);
        return tell(rows[r][i]);
    }

    public int tear(int r) {
        if (!in(r, 0, 5)) return BAD;
        if (rows[r] == null) return refuse(1);
        rows[r] = null;
        return 1;
    }

    public int copy(int r, int i, int to, int j, int n) {
        if (!in(r, 0, 5) || !in(to, 0, 5)) return BAD;
        if (n < 0) return refuse(5);
        if (rows[r] == null || rows[to] == null) return refuse(1);
        if (i < 0 || j < 0 || (long) i + n > rows[r].length || (long) j + n > rows[to].length) return refuse(2);
        int[] taken = rows[r].clone();
        for (int k = 0; k < n; k++) rows[to][j + k] = taken[i + k];
        return 1;
    }

    public int mean(int r) {
        if (!in(r, 0, 5)) return BAD;
        if (rows[r] == null) return refuse(1);
        if (rows[r].length == 0) return refuse(4);
        BigInteger sum = BigInteger.ZERO;
        for (int v : rows[r]) sum = sum.add(BigInteger.valueOf(v));
        return tell(sum.divide(BigInteger.valueOf(rows[r].length)).intValue());
    }

    public int text(int t, int n) {
        if (!in(t, 0, 3) || n > 60) return BAD;
        if (n < 0) return refuse(5);
        texts[t] = new byte[n];
        Arrays.fill(texts[t], (byte) ' ');
        return n;
    }

    public int put(int t, int i, int v) {
        if (!in(t, 0, 3)) return BAD;
        if (texts[t] == null) return refuse(1);
        if (!in(i, 0, texts[t].length - 1)) return refuse(2);
        int was = texts[t][i];
        texts[t][i] = (byte) v;
        return was + 1000;
    }

    /** Sign by sign: item is what has been read of an item so far. */
    private static int read(byte[] text, Now n) {
        String item = "";
        for (int i = 0; i < text.length; i++) {
            char sign = (char) (text[i] & 255);
            boolean room = sign >= 'A' && sign <= 'L';
            int number = sign - 'A';
            if (item.isEmpty()) {
                if (sign == ' ') continue;
                boolean person = "psckln".indexOf(sign) >= 0 && n.all.size() < 6;
                boolean stair = sign == 't' && n.stairs.size() < 4;
                if (!person && !stair && sign != 'x') return i;
                item = "" + sign;
            } else if (item.equals("x")) {
                if (!room || !n.shut.add(number)) return i;
                item = "";
            } else if (item.length() == 1) {
                if (!room) return i;
                item += sign;
            } else if (item.charAt(0) == 't') {
                if (!room || sign == item.charAt(1)) return i;
                n.stairs.add(new int[] {item.charAt(1) - 'A', number});
                item = "";
            } else {
                if (sign < '0' || sign > '9') return i;
                One o = new One();
                o.letter = item.charAt(0);
                o.room = item.charAt(1) - 'A';
                o.pace = sign - '0';
                n.all.add(o);
                item = "";
            }
        }
        return !item.isEmpty() || n.all.isEmpty() ? text.length : NONE;
    }

    public int fault(int t) {
        if (!in(t, 0, 3)) return BAD;
        if (texts[t] == null) return refuse(1);
        return read(texts[t], new Now());
    }

    public int house(int t) {
        if (!in(t, 0, 3)) return BAD;
        if (texts[t] == null) return refuse(1);
        Now n = new Now();
        if (read(texts[t], n) != NONE) return STATE;
        past = new ArrayList<>(List.of(n));
        for (int k = 0; k < 3; k++) kept.set(k, null);
        return n.all.size();
    }

    private static int bits(Iterable<Integer> of) {
        int b = 0;
        for (int i : of) b |= 1 << i;
        return b;
    }

    private int of(One o, int what) {
        int[] all = {o.kind(), o.room, o.pace, o.days, bits(now().from(o, o.room)), o.steps};
        return all[what];
    }

    public int person(int p, int what) {
        if (one(p) == null || !in(what, 0, 5)) return BAD;
        return tell(of(one(p), what));
    }

    public int door(int i) {
        if (!in(i, 0, 11)) return BAD;
        return now().shut.contains(i) ? 1 : 0;
    }

    public int mark(int p, int kind) {
        One o = one(p);
        if (o == null || !in(kind, 1, 5)) return BAD;
        String those = new String[] {"", "sl", "cn", "k", "l", "n"}[kind];
        if (those.indexOf(o.letter) < 0) return refuse(3);
        int n = 0;
        switch (kind) {
            case 1:
                for (int[] s : now().stairs) if (s[0] == o.room || s[1] == o.room) n++;
                return n;
            case 2:
                if (o.pace == 0) return NONE;
                return (12 - o.room + o.pace - 1) / o.pace;
            case 3:
                return door(o.room) + door((o.room + 11) % 12);
            case 4:
                for (One other : now().all) if (other != o && other.room == o.room) n++;
                return n;
            default:
                for (int far : now().ways(o)[o.room]) if (far == 99) n++;
                return n;
        }
    }

    public int pace(int p, int v) {
        if (one(p) == null || !in(v, 0, 9)) return BAD;
        if (deeds() > 0) return STATE;
        int was = one(p).pace;
        past.set(0, now().like());
        one(p).pace = v;
        return was;
    }

    public int step(int p, int room) {
        if (one(p) == null || !in(room, 0, 11)) return BAD;
        if (!now().goes(one(p), one(p).room, room)) return STATE;
        if (deeds() == 40) return FULL;
        One o = deed().all.get(p);
        if (now().byDoor(o, o.room, room)) {
            if (o.room == 11 && room == 0) o.days++;
            if (o.room == 0 && room == 11) o.days--;
        }
        o.room = room;
        o.steps++;
        return o.days + 1000;
    }

    public int hour() {
        if (now().all.isEmpty()) return STATE;
        if (deeds() == 40) return FULL;
        int moved = 0;
        Now n = deed();
        n.hour++;
        for (One o : n.all) {
            int from = o.room;
            for (int i = 0; i < o.pace; i++) {
                o.room++;
                if (o.room == 12) {
                    o.room = 0;
                    o.days++;
                }
            }
            if (o.room != from) moved++;
        }
        return moved;
    }

    public int turn(int i, int is) {
        if (!in(i, 0, 11) || !in(is, 0, 1)) return BAD;
        if (door(i) == is) return STATE;
        if (deeds() == 40) return FULL;
        Now n = deed();
        if (is == 1) n.shut.add(i); else n.shut.remove(i);
        return n.shut.size();
    }

    public int undo(int n) {
        if (!in(n, 0, deeds())) return BAD;
        int many = deeds() - n;
        past = new ArrayList<>(past.subList(0, n + 1));
        return many;
    }

    public int keep(int k) {
        if (!in(k, 0, 2)) return BAD;
        if (now().all.isEmpty()) return STATE;
        kept.set(k, new ArrayList<>(past));
        return deeds();
    }

    public int on(int k) {
        if (!in(k, 0, 2)) return BAD;
        if (kept.get(k) == null) return refuse(1);
        past = new ArrayList<>(kept.get(k));
        return deeds();
    }

    public int way(int p, int room, int r) {
        One o = one(p);
        if (o == null || !in(room, 0, 11) || !in(r, 0, 5)) return BAD;
        int far = now().ways(o)[o.room][room];
        if (far == 99) return NONE;
        rows[r] = firstWay(o, new ArrayList<>(List.of(o.room)), room, far);
        return far;
    }

    /** All ways of that many steps, the first by numbers first. */
    private int[] firstWay(One o, List<Integer> way, int room, int left) {
        int last = way.get(way.size() - 1);
        if (left == 0) {
            return last == room ? way.stream().mapToInt(i -> i).toArray() : null;
        }
        for (int next : now().from(o, last)) {
            if (now().ways(o)[next][room] > left - 1) continue;
            way.add(next);
            int[] whole = firstWay(o, way, room, left - 1);
            way.remove(way.size() - 1);
            if (whole != null) return whole;
        }
        return null;
    }

    public int within(int p, int n) {
        if (one(p) == null || !in(n, 0, 12)) return BAD;
        TreeSet<Integer> there = new TreeSet<>(List.of(one(p).room));
        for (int i = 0; i < n; i++) {
            for (int room : there.toArray(new Integer[0])) there.addAll(now().from(one(p), room));
        }
        return bits(there);
    }

    private int wrongErrands(int[] row, int most) {
        if (row == null) return 1;
        if (row.length > most) return 5;
        for (int v : row) if (!in(v, 0, 11)) return 3;
        return 0;
    }

    public int errands(int p, int r) {
        if (one(p) == null || !in(r, 0, 5)) return BAD;
        int wrong = wrongErrands(rows[r], 8);
        if (wrong > 0) return refuse(wrong);
        int sum = 0, room = one(p).room;
        for (int to : rows[r]) {
            sum += now().ways(one(p))[room][to];
            room = to;
        }
        return sum >= 99 ? NONE : sum;
    }

    public int best(int p, int r, int to) {
        if (one(p) == null || !in(r, 0, 5) || !in(to, 0, 5)) return BAD;
        int wrong = wrongErrands(rows[r], 6);
        if (wrong > 0) return refuse(wrong);
        int[][] ways = now().ways(one(p));
        int least = 99;
        List<Integer> first = null;
        for (List<Integer> order : orders(rows[r].length)) {
            int sum = 0, room = one(p).room;
            for (int place : order) {
                sum += ways[room][rows[r][place]];
                room = rows[r][place];
            }
            if (sum < least) {
                least = sum;
                first = order;
            }
        }
        if (first == null) return NONE;
        rows[to] = first.stream().mapToInt(i -> i).toArray();
        return least;
    }

    private static List<List<Integer>> orders(int n) {
        List<List<Integer>> all = new ArrayList<>();
        extend(new ArrayList<>(), n, all);
        return all;
    }

    private static void extend(List<Integer> order, int n, List<List<Integer>> all) {
        if (order.size() == n) all.add(new ArrayList<>(order));
        for (int i = 0; i < n; i++) {
            if (!order.contains(i)) {
                order.add(i);
                extend(order, n, all);
                order.remove(order.size() - 1);
            }
        }
    }

    public int middle(int p, int q) {
        if (one(p) == null || one(q) == null || p == q) return BAD;
        int least = 99, room = NONE;
        for (int m = 0; m < 12; m++) {
            int sum = now().ways(one(p))[one(p).room][m] + now().ways(one(q))[one(q).room][m];
            if (sum < least) {
                least = sum;
                room = m;
            }
        }
        if (room != NONE) tell(least);
        return room;
    }

    public int bar(int p, int room) {
        if (one(p) == null || !in(room, 0, 11) || one(p).room == room) return BAD;
        int least = 99, which = 0;
        for (int set = 4095; set >= 0; set--) {
            if (Integer.bitCount(set) > least) continue;
            Now n = now().like();
            boolean open = true;
            for (int d = 0; d < 12; d++) {
                if ((set & 1 << d) != 0) {
                    open &= n.throughDoor(one(p), d);
                    n.shut.add(d);
                }
            }
            if (open && !comes(n, one(p), room)) {
                least = Integer.bitCount(set);
                which = set;
            }
        }
        if (least == 99) return NONE;
        tell(which);
        return least;
    }

    private static boolean comes(Now n, One o, int room) {
        List<Integer> there = new ArrayList<>(List.of(o.room));
        for (int i = 0; i < there.size(); i++) {
            for (int next : n.from(o, there.get(i))) if (!there.contains(next)) there.add(next);
        }
        return there.contains(room);
    }

    public int parts(int p) {
        if (one(p) == null) return BAD;
        TreeSet<Integer> firsts = new TreeSet<>();
        int[][] ways = now().ways(one(p));
        for (int a = 0; a < 12; a++) {
            int first = a;
            for (int b = 11; b >= 0; b--) if (ways[a][b] < 99) first = b;
            firsts.add(first);
        }
        return firsts.size();
    }

    private static int roomAfter(One o, int h) {
        return (o.room + h * o.pace) % 12;
    }

    public int later(int p, int n) {
        if (one(p) == null || !in(n, 0, 999)) return BAD;
        One o = one(p).like();
        for (int i = 0; i < n * o.pace; i++) {
            o.room++;
            if (o.room == 12) {
                o.room = 0;
                o.days++;
            }
        }
        tell(o.days + 1000);
        return o.room;
    }

    public int when(int p, int room) {
        if (one(p) == null || !in(room, 0, 11)) return BAD;
        for (int h = 0; h < 100; h++) if (roomAfter(one(p), h) == room) return h;
        return NONE;
    }

    public int meet(int p, int q) {
        if (one(p) == null || one(q) == null || p == q) return BAD;
        int h = together(one(p), one(q));
        if (h != NONE) tell(roomAfter(one(q), h));
        return h;
    }

    private static int together(One a, One b) {
        for (int h = 0; h < 100; h++) if (roomAfter(a, h) == roomAfter(b, h)) return h;
        return NONE;
    }

    public int crowd() {
        if (now().all.isEmpty()) return STATE;
        int most = 0, when = 0;
        for (int h = 0; h < 12; h++) {
            int[] many = new int[12];
            for (One o : now().all) many[roomAfter(o, h)]++;
            for (int m : many) {
                if (m > most) {
                    most = m;
                    when = h;
                }
            }
        }
        tell(most);
        return when;
    }

    public int change(int p, int q) {
        if (one(p) == null || one(q) == null || p == q) return BAD;
        for (int by = 0; by <= 9; by++) {
            for (int v : new int[] {one(p).pace - by, one(p).pace + by}) {
                One o = one(p).like();
                o.pace = v;
                if (in(v, 0, 9) && together(o, one(q)) != NONE) {
                    tell(v);
                    return by;
                }
            }
        }
        return NONE;
    }

    public int round() {
        if (now().all.isEmpty()) return STATE;
        for (int h = 1; ; h++) {
            boolean all = true;
            for (One o : now().all) all &= roomAfter(o, h) == o.room;
            if (all) return h;
        }
    }

    public int paces(int room, int n, int days) {
        if (!in(room, 0, 11) || !in(n, 0, 999) || !in(days, 0, 999)) return BAD;
        int b = 0;
        for (int v = 0; v <= 9; v++) {
            int way = room + n * v;
            if (way >= 12 * days && way < 12 * days + 12) b |= 1 << v;
        }
        return b;
    }

    public int ages(int r, int n) {
        if (!in(r, 0, 5) || !in(n, 0, 999)) return BAD;
        int many = now().all.size();
        if (many == 0) return STATE;
        if (rows[r] == null) return refuse(1);
        if (rows[r].length != many) return refuse(5);
        int fit = 0, first = NONE;
        for (List<Integer> order : orders(many)) {
            boolean all = true;
            int number = 0;
            for (int i = 0; i < many; i++) {
                One o = one(order.get(i));
                all &= (o.room + n * o.pace) / 12 == rows[r][i];
                number = 6 * number + order.get(i);
            }
            if (all && fit++ == 0) first = number;
        }
        upper = fit;
        lower = 1;
        return tell(first);
    }

    public int odds(int p, int room, int n) {
        if (one(p) == null || !in(room, 0, 11) || !in(n, 0, 8)) return BAD;
        BigInteger[] chance = chance(one(p), one(p).room, room, n);
        upper = chance[0].longValueExact();
        lower = chance[1].longValueExact();
        return 1;
    }

    private BigInteger[] chance(One o, int from, int room, int left) {
        if (left == 0) return new BigInteger[] {from == room ? BigInteger.ONE : BigInteger.ZERO, BigInteger.ONE};
        List<Integer> to = now().from(o, from);
        if (to.isEmpty()) return chance(o, from, room, left - 1);
        BigInteger up = BigInteger.ZERO, low = BigInteger.ONE;
        for (int next : to) {
            BigInteger[] part = chance(o, next, room, left - 1);
            up = up.multiply(part[1]).add(part[0].multiply(low));
            low = low.multiply(part[1]);
            BigInteger common = up.gcd(low);
            up = up.divide(common);
            low = low.divide(common);
        }
        low = low.multiply(BigInteger.valueOf(to.size()));
        BigInteger common = up.gcd(low);
        return new BigInteger[] {up.divide(common), low.divide(common)};
    }

    public int lots(int n, int seed) {
        if (!in(n, 1, 20) || !in(seed, 1, 2147483646)) return BAD;
        if (now().all.isEmpty()) return STATE;
        if (deeds() + n > 40) return FULL;
        BigInteger lot = BigInteger.valueOf(seed);
        for (int i = 0; i < n; i++) {
            lot = lot.multiply(BigInteger.valueOf(48271)).mod(BigInteger.valueOf(2147483647));
            int who = lot.mod(BigInteger.valueOf(now().all.size())).intValue();
            List<Integer> to = now().from(one(who), one(who).room);
            if (to.isEmpty()) {
                hour();
            } else {
                step(who, to.get(lot.shiftRight(4).mod(BigInteger.valueOf(to.size())).intValue()));
            }
        }
        int there = 0;
        for (One o : now().all) if (o.room == 0) there++;
        return there;
    }

    public int asked() {
        return asked;
    }

    public long upper() {
        return upper;
    }

    public long lower() {
        return lower;
    }

    public int count(int what) {
        int servants = 0, laid = 0, written = 0, houses = 0;
        for (One o : now().all) if (o.climbs()) servants++;
        for (int[] r : rows) if (r != null) laid++;
        for (byte[] t : texts) if (t != null) written++;
        for (List<Now> k : kept) if (k != null) houses++;
        int[] all = {now().all.size(), now().stairs.size(), now().shut.size(), now().hour, deeds(), servants, laid,
            written, houses};
        return in(what, 0, 8) ? all[what] : BAD;
    }

    public int finding() {
        return finding;
    }

    public int findings(int f) {
        return in(f, 1, 5) ? found[f] : BAD;
    }

    public long digest() {
        List<Integer> all = new ArrayList<>();
        for (int what = 0; what <= 8; what++) all.add(count(what));
        for (One o : now().all) for (int what = 0; what <= 5; what++) all.add(of(o, what));
        for (List<Now> k : kept) all.add(k == null ? -1 : k.size() - 1);
        for (int[] r : rows) {
            all.add(r == null ? -1 : r.length);
            if (r != null) for (int v : r) all.add(v);
        }
        for (byte[] t : texts) {
            all.add(t == null ? -1 : t.length);
            if (t != null) for (byte v : t) all.add((int) v);
        }
        long h = 17;
        for (int v : all) h = 31 * h + v;
        return h;
    }
}
