import java.lang.reflect.Method;
import java.util.ArrayList;
import java.util.Arrays;
import java.util.Comparator;
import java.util.List;
import java.util.Random;

/** The class and the Model get the same calls by lots of fixed seeds; each answer must be the same. */
public final class ModelTest {
    private static final int RUNS = 700, CALLS = 512;
    private static final int[] WRONG = {-1, -2, 41, 61, 1000, Integer.MAX_VALUE, Integer.MIN_VALUE};
    private static final Check c = new Check();

    /** Telling calls, that are asked behind each other call: they show what it changed. */
    private static final List<String> TELLING = List.of("asked", "upper", "lower", "finding");

    private static final class Pair {
        final HouseOfHours real = new HouseOfHours();
        final Model model = new Model();
        final StringBuilder said = new StringBuilder();
        int calls = 0;

        long call(Method m, Object... args) throws Exception {
            calls++;
            Method twin = Model.class.getMethod(m.getName(), m.getParameterTypes());
            twin.setAccessible(true);
            Number got = (Number) m.invoke(real, args);
            Number want = (Number) twin.invoke(model, args);
            String shown = m.getName() + Arrays.toString(args);
            said.append(shown).append(got).append(' ');
            boolean same = got.longValue() == want.longValue();
            c.due(same ? shown : said + "<< " + shown, got.longValue(), want.longValue());
            return got.longValue();
        }
    }

    public static void main(String[] args) throws Exception {
        Method[] all = HouseOfHours.class.getDeclaredMethods();
        List<Method> calls = new ArrayList<>();
        for (Method m : all) {
            if (java.lang.reflect.Modifier.isPublic(m.getModifiers())) {
                calls.add(m);
            }
        }
        calls.sort(Comparator.comparing(Method::getName));
        c.due("methods", calls.size(), 45 - 1);
        for (int run = 0; run < RUNS; run++) {
            c.in("run " + run);
            play(calls, new Random(run));
        }
        c.end();
    }

    private static Method named(List<Method> calls, String name) {
        for (Method m : calls) {
            if (m.getName().equals(name)) {
                return m;
            }
        }
        throw new IllegalStateException(name);
    }

    private static void play(List<Method> calls, Random lots) throws Exception {
        Pair pair = new Pair();
        if (lots.nextInt(10) > 0) {
            build(pair, calls, lots);
        }
        while (pair.calls < CALLS - 140) {
            if (lots.nextInt(120) == 0) {
                build(pair, calls, lots);
            }
            if (lots.nextInt(25) == 0) {
                fillRow(pair, calls, lots);
            }
            Method m = calls.get(lots.nextInt(calls.size()));
            boolean dear = m.getName().equals("bar") || m.getName().equals("best") || m.getName().equals("odds");
            if (dear && lots.nextInt(3) > 0 || m.getName().equals("house") && lots.nextInt(4) > 0) {
                continue;
            }
            pair.call(m, arguments(m, lots));
            for (String name : TELLING) {
                pair.call(named(calls, name));
            }
            pair.call(named(calls, "digest"));
        }
    }

    /** A ROW as errands or ages would be, of any length that fits or just does not. */
    private static void fillRow(Pair pair, List<Method> calls, Random lots) throws Exception {
        int r = lots.nextInt(6);
        int n = lots.nextInt(10);
        pair.call(named(calls, "row"), r, n);
        for (int i = 0; i < n; i++) {
            pair.call(named(calls, "lay"), r, i, lots.nextInt(lots.nextInt(6) == 0 ? 13 : 12));
        }
    }

    private static void build(Pair pair, List<Method> calls, Random lots) throws Exception {
        String signs = signs(lots);
        int t = lots.nextInt(4);
        pair.call(named(calls, "text"), t, signs.length());
        for (int i = 0; i < signs.length() && pair.calls < CALLS - 10; i++) {
            if (signs.charAt(i) != ' ') {
                pair.call(named(calls, "put"), t, i, (int) signs.charAt(i));
            }
        }
        pair.call(named(calls, "fault"), t);
        pair.call(named(calls, "house"), t);
        if (lots.nextInt(3) == 0) {
            agesThatFit(pair, calls, lots);
        }
    }

    /** Ages that are truly those of some order, so that not all of ages() answers none. */
    private static void agesThatFit(Pair pair, List<Method> calls, Random lots) throws Exception {
        int n = (int) pair.call(named(calls, "count"), 0);
        if (n < 1) {
            return;
        }
        int hours = lots.nextInt(30);
        List<Integer> older = new ArrayList<>();
        for (int p = 0; p < n; p++) {
            pair.call(named(calls, "later"), p, hours);
            older.add(pair.real.asked() - 1000);
        }
        java.util.Collections.shuffle(older, lots);
        pair.call(named(calls, "row"), 5, n);
        for (int i = 0; i < n; i++) {
            pair.call(named(calls, "lay"), 5, i, older.get(i));
        }
        pair.call(named(calls, "ages"), 5, hours);
        pair.call(named(calls, "asked"));
        pair.call(named(calls, "upper"));
    }

    private static char room(Random lots) {
        return (char) ('A' + lots.nextInt(12));
    }

    private static String signs(Random lots) {
        List<String> items = new ArrayList<>();
        int persons = 1 + lots.nextInt(6), stairs = lots.nextInt(5), shut = lots.nextInt(lots.nextInt(4) == 0 ? 9 : 4);
        for (int i = 0; i < persons; i++) {
            char kind = "psckln".charAt(lots.nextInt(6));
            items.add("" + kind + room(lots) + lots.nextInt(10));
        }
        char hub = room(lots);
        for (int i = 0; i < stairs; i++) {
            items.add("t" + (lots.nextBoolean() ? hub : room(lots)) + room(lots));
        }
        for (int i = 0; i < shut; i++) {
            items.add("x" + room(lots));
        }
        java.util.Collections.shuffle(items, lots);
        StringBuilder all = new StringBuilder();
        for (String item : items) {
            if (all.length() < 54) {
                all.append(lots.nextInt(4) == 0 ? " " : "").append(item);
            }
        }
        if (lots.nextInt(6) == 0) {
            all.setCharAt(lots.nextInt(all.length()), "pMA0xt @/:l".charAt(lots.nextInt(11)));
        }
        return all.toString();
    }

    /** Mostly such as are told, so that most calls are not refused; else one that is wrong or just beyond. */
    private static Object[] arguments(Method m, Random lots) {
        Object[] args = new Object[m.getParameterCount()];
        for (int i = 0; i < args.length; i++) {
            args[i] = argument(m.getName(), i, lots);
        }
        return args;
    }

    private static int argument(String name, int i, Random lots) {
        if (lots.nextInt(40) == 0) {
            return WRONG[lots.nextInt(WRONG.length)];
        }
        switch (name + i) {
            case "row1":
                return lots.nextInt(12) - 1;
            case "lay2":
                return lots.nextInt(3) == 0 ? lots.nextInt() : lots.nextInt(14) - 1;
            case "put2":
                return lots.nextInt(4) == 0 ? lots.nextInt() : "pA1sxt ".charAt(lots.nextInt(7));
            case "text0":
            case "put0":
            case "fault0":
            case "house0":
                return lots.nextInt(5);
            case "text1":
                return lots.nextInt(62);
            case "keep0":
            case "on0":
                return lots.nextInt(4);
            case "turn1":
                return lots.nextInt(8) == 0 ? 2 : lots.nextInt(2);
            case "undo0":
                return lots.nextInt(42);
            case "within1":
                return lots.nextInt(14);
            case "later1":
            case "paces1":
            case "ages1":
                return lots.nextInt(lots.nextBoolean() ? 1001 : 30);
            case "paces2":
                return lots.nextInt(lots.nextBoolean() ? 1001 : 12);
            case "odds2":
                return lots.nextInt(8) == 0 ? 8 + lots.nextInt(2) : lots.nextInt(7);
            case "lots0":
                return lots.nextInt(4) == 0 ? lots.nextInt(22) : lots.nextInt(6);
            case "lots1":
                return lots.nextInt() & Integer.MAX_VALUE;
            case "pace1":
                return lots.nextInt(11);
            case "count0":
                return lots.nextInt(10);
            case "mark1":
            case "findings0":
            case "person1":
                return lots.nextInt(7);
            case "person0":
            case "mark0":
            case "pace0":
            case "step0":
            case "way0":
            case "within0":
            case "errands0":
            case "best0":
            case "middle0":
            case "middle1":
            case "bar0":
            case "parts0":
            case "later0":
            case "when0":
            case "meet0":
            case "meet1":
            case "change0":
            case "change1":
            case "odds0":
                return lots.nextInt(lots.nextInt(3) == 0 ? 7 : 3);
            case "way2":
            case "errands1":
            case "best1":
            case "best2":
            case "ages0":
            case "row0":
            case "lay0":
            case "at0":
            case "tear0":
            case "mean0":
            case "copy0":
            case "copy2":
                return lots.nextInt(lots.nextInt(5) == 0 ? 7 : 6);
            case "copy1":
            case "copy3":
            case "copy4":
                return lots.nextInt(7) - (lots.nextInt(6) == 0 ? 1 : 0);
            default:
                return lots.nextInt(lots.nextInt(6) == 0 ? 13 : 12);
        }
    }
}
