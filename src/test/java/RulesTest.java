import java.lang.management.ManagementFactory;
import java.lang.reflect.Constructor;
import java.lang.reflect.Field;
import java.lang.reflect.Method;
import java.lang.reflect.Modifier;
import java.nio.file.Files;
import java.nio.file.Path;
import java.util.ArrayList;
import java.util.List;
import java.util.TreeSet;
import java.util.regex.Matcher;
import java.util.regex.Pattern;

/** The public face, and those rules of LANGUAGE.md that can be seen in the source, the classes or while they run. */
public final class RulesTest {
    private static final Path SOURCE = Path.of("src/main/java/HouseOfHours.java");
    private static final Check c = new Check();

    private static final String[] FACE = {
        "int row(int,int)", "int lay(int,int,int)", "int at(int,int)", "int tear(int)",
        "int copy(int,int,int,int,int)", "int mean(int)", "int text(int,int)", "int put(int,int,int)",
        "int fault(int)", "int house(int)", "int person(int,int)", "int door(int)", "int mark(int,int)",
        "int pace(int,int)", "int step(int,int)", "int hour()", "int turn(int,int)", "int undo(int)",
        "int keep(int)", "int on(int)", "int way(int,int,int)", "int within(int,int)", "int errands(int,int)",
        "int best(int,int,int)", "int middle(int,int)", "int bar(int,int)", "int parts(int)", "int later(int,int)",
        "int when(int,int)", "int meet(int,int)", "int crowd()", "int change(int,int)", "int round()",
        "int paces(int,int,int)", "int ages(int,int)", "int odds(int,int,int)", "int lots(int,int)", "int asked()",
        "long upper()", "long lower()", "int count(int)", "int finding()", "int findings(int)", "long digest()"};

    public static void main(String[] args) throws Exception {
        face();
        constants();
        classesInside();
        words();
        methodsAreShort();
        callsMakeNothing();
        anyArguments();
        c.end();
    }

    private static void is(String what, boolean so) {
        c.due(what, so ? 1 : 0, 1);
    }

    private static String shown(Method m) {
        List<String> types = new ArrayList<>();
        for (Class<?> type : m.getParameterTypes()) {
            types.add(type.getSimpleName());
        }
        return m.getReturnType().getSimpleName() + " " + m.getName() + "(" + String.join(",", types) + ")";
    }

    private static void face() {
        c.in("rule 1, face");
        TreeSet<String> seen = new TreeSet<>();
        for (Method m : HouseOfHours.class.getDeclaredMethods()) {
            if (!Modifier.isPrivate(m.getModifiers())) {
                seen.add(shown(m));
                is(shown(m) + " is public, not static", m.getModifiers() == Modifier.PUBLIC);
            }
        }
        TreeSet<String> want = new TreeSet<>(List.of(FACE));
        is("the face is the document's: " + seen, seen.equals(want));
        Constructor<?>[] made = HouseOfHours.class.getDeclaredConstructors();
        is("one public constructor", made.length == 1 && made[0].getModifiers() == Modifier.PUBLIC
            && made[0].getParameterCount() == 0);
        is("public final class", HouseOfHours.class.getModifiers() == (Modifier.PUBLIC | Modifier.FINAL));
    }

    private static void constants() throws Exception {
        c.in("rule 1, 5, constants");
        String[] names = {"BAD", "FULL", "FINDING", "STATE", "SPENT", "NONE"};
        int[] values = {-1, -2, -3, -4, -6, -9};
        for (int i = 0; i < names.length; i++) {
            Field f = HouseOfHours.class.getField(names[i]);
            c.due(names[i], f.getInt(null), values[i]);
        }
        c.due("public fields", HouseOfHours.class.getFields().length, names.length);
        for (Class<?> type : all()) {
            int own = 0;
            for (Field f : type.getDeclaredFields()) {
                boolean fixed = Modifier.isStatic(f.getModifiers());
                own += fixed ? 0 : 1;
                is(f + " is final, if static", !fixed || Modifier.isFinal(f.getModifiers()));
                boolean hidden = Modifier.isPrivate(f.getModifiers());
                is(f + " is private or a constant of the face",
                    type != HouseOfHours.class || hidden || List.of(names).contains(f.getName()));
            }
            is(type + " has at most twenty fields", own <= 20);
        }
    }

    private static List<Class<?>> all() {
        List<Class<?>> types = new ArrayList<>(List.of(HouseOfHours.class.getDeclaredClasses()));
        types.add(HouseOfHours.class);
        return types;
    }

    private static void classesInside() {
        c.in("rule 1, 2, 11, classes inside");
        is("at most twelve classes", all().size() <= 12);
        TreeSet<String> open = new TreeSet<>();
        for (String call : FACE) {
            open.add(call.substring(call.indexOf(' ') + 1, call.indexOf('(')));
        }
        for (Class<?> type : all()) {
            if (type != HouseOfHours.class) {
                is(type + " is static and not public", Modifier.isStatic(type.getModifiers())
                    && !Modifier.isPublic(type.getModifiers()) && !Modifier.isProtected(type.getModifiers()));
                c.due(type + " has no classes inside", type.getDeclaredClasses().length, 0);
            }
            for (Method m : type.getDeclaredMethods()) {
                boolean called = type == HouseOfHours.class && Modifier.isPublic(m.getModifiers());
                is(m + " bears no public one's name", called || !open.contains(m.getName()));
                is(m + " takes at most seven", m.getParameterCount() <= 7);
            }
        }
    }

    /** The source without comments and texts. */
    private static String code() throws Exception {
        String source = Files.readString(SOURCE);
        return source.replaceAll("(?s)/\\*.*?\\*/", "").replaceAll("//[^\n]*", "").replaceAll("\"[^\"]*\"", "\"\"");
    }

    private static void words() throws Exception {
        c.in("rules 3 to 6, 13, words");
        String code = code();
        String[] none = {"\\bthrow\\b", "\\bthrows\\b", "\\btry\\b", "\\bcatch\\b", "\\bfinally\\b",
            "\\bsynchronized\\b", "\\bassert\\b", "->", "::", "Exact\\b", "\\bpackage\\b", "\\bThread\\b",
            "\\bRandom\\b", "\\bdouble\\b", "\\bfloat\\b", "static \\{", "\\[\\]\\[\\]\\[\\]", "\\bnanoTime\\b",
            "\\bvar\\b", "\\bObject\\b", "\\bhashCode\\b", "\\bgetClass\\b"};
        for (String word : none) {
            is("no " + word, !Pattern.compile(word).matcher(code).find());
        }
        Matcher imports = Pattern.compile("import ([^;]*);").matcher(code);
        while (imports.find()) {
            is("import " + imports.group(1), imports.group(1).equals("java.util.Arrays"));
        }
        Matcher library = Pattern.compile("\\b(System|Arrays|Integer|Long|Math)\\.(\\w+)").matcher(code);
        List<String> listed = List.of("System.arraycopy", "Arrays.fill", "Integer.bitCount", "Math.max", "Math.min",
            "Math.abs");
        while (library.find()) {
            is(library.group() + " is listed", listed.contains(library.group()));
        }
    }

    private static void methodsAreShort() throws Exception {
        c.in("rule 11, methods");
        String[] lines = Files.readString(SOURCE).split("\n");
        int from = -1;
        int heads = 0;
        String head = "";
        for (int i = 0; i < lines.length; i++) {
            String line = lines[i];
            boolean opens = line.matches(" {4}( {4})?(?!if|for|while|do|switch|else)[a-zA-Z].*\\) \\{");
            if (opens) {
                heads++;
                from = i;
                head = line;
            }
            if (from >= 0 && line.equals(head.replaceAll("\\S.*", "") + "}")) {
                is(head.trim() + " has at most sixty lines", i - from + 1 <= 60);
                from = -1;
            }
        }
        int made = 0;
        for (Class<?> type : all()) {
            made += type.getDeclaredMethods().length;
        }
        // The two constructors that are written out begin alike.
        c.due("methods and constructors seen", heads, made + 2);
    }

    /** Each call of the face with the numbers of a row; what they answer is told elsewhere. */
    private static long callAll(HouseOfHours x, int a, int b, int d) {
        long h = 0;
        h += x.row(a, b) + x.lay(a, b, d) + x.at(a, b) + x.copy(a, b, d, a, b) + x.mean(a);
        h += x.text(a, b) + x.put(a, b, d) + x.fault(a) + x.person(a, b) + x.door(a) + x.mark(a, b);
        h += x.pace(a, b) + x.keep(a) + x.step(a, b) + x.turn(a, b) + x.way(a, b, d) + x.within(a, b);
        h += x.errands(a, b) + x.best(a, b, d) + x.middle(a, b) + x.bar(a, b) + x.parts(a) + x.later(a, b);
        h += x.when(a, b) + x.meet(a, b) + x.crowd() + x.change(a, b) + x.round() + x.paces(a, b, d);
        h += x.ages(a, b) + x.odds(a, b, d) + x.lots(a, b) + x.hour() + x.undo(a) + x.on(a) + x.tear(a);
        h += x.house(a) + x.asked() + x.upper() + x.lower() + x.count(a) + x.finding() + x.findings(a);
        return h + x.digest();
    }

    private static void callsMakeNothing() {
        c.in("rule 12, what calls make");
        com.sun.management.ThreadMXBean threads =
            (com.sun.management.ThreadMXBean) ManagementFactory.getThreadMXBean();
        long self = Thread.currentThread().getId();
        HouseOfHours x = null;
        long sum = 0;
        long before = 0;
        for (int turn = 0; turn < 2; turn++) {
            x = Check.built("pA1sB2cC3kD4lE5nF6 xBxE tAGtBH");
            before = threads.getThreadAllocatedBytes(self);
            for (int i = 0; i < 11; i++) {
                sum += callAll(x, i % 6, i % 5, i % 4);
            }
        }
        long bytes = threads.getThreadAllocatedBytes(self) - before;
        // The machine may make something of its own; 484 calls that make one object each would show.
        is("484 calls make nothing, but " + bytes + " bytes; " + sum, bytes < 4096);
    }

    private static void anyArguments() {
        c.in("rule 7, any arguments in any state");
        int[] some = {0, 1, -1, 2, 3, 5, 6, 8, 11, 12, 20, 40, 41, 60, 61, 999, 1000, Integer.MAX_VALUE,
            Integer.MIN_VALUE};
        for (int a : some) {
            for (int b : some) {
                for (int d : some) {
                    HouseOfHours empty = new HouseOfHours();
                    callAll(empty, a, b, d);
                    callAll(empty, b, d, a);
                    HouseOfHours full = Check.built("lA1sL2tALtLA xL");
                    callAll(full, a, b, d);
                    callAll(full, b, a, d);
                }
            }
        }
        is("no call threw", true);
    }
}
