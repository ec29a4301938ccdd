import java.lang.management.ManagementFactory;
import java.lang.reflect.Array;
import java.lang.reflect.Field;
import java.lang.reflect.Member;
import java.lang.reflect.Method;
import java.lang.reflect.Modifier;
import java.nio.file.Files;
import java.nio.file.Path;
import java.util.ArrayList;
import java.util.IdentityHashMap;
import java.util.List;
import java.util.Map;
import java.util.Random;
import java.util.TreeSet;
import java.util.regex.Matcher;
import java.util.regex.Pattern;

/** The face, the rules of LANGUAGE.md that can be read off the source, the room that is used, and wild calls. */
public final class LanguageTest {
    private static final String FACE = "int feed(int a, int b, int c, int d, int e) int back(int n) int text() "
            + "int set(int c, int what, int v) int sort(int s, int what, int v) int rule(int what, int v) "
            + "int begin(boolean guard) int quiet() int loss(int s, boolean told) "
            + "int live(int n, int rule, int v, int seed) int come(int size, int weight) int drop(int s) int move(int c) "
            + "int anew() int undo() int of(int c, int what) int ofSort(int s, int what) int life(int what) "
            + "int book(int k, int what) int ledger(int k, int what) int mean(boolean lower) long cost(int l, int c) "
            + "int guards(int l, int c) long ahead(int l, int c, int k, int t, boolean guard) "
            + "int least(int l, int c, int k, int t, boolean guard) int tells(int l, int c, int k, int t, boolean guard) "
            + "long gain(int l, int c, int k, int t, boolean guard, int s) int patience(int c, int s) "
            + "long worst(int l, int c) long bare(int l, int c) long by(int rule, int v, int l, int c) "
            + "int bestLimit(int l, int c) long worth(int l, int c, int other) int cheapest(int l) int reach(int c) "
            + "int years(int c, int to) int ways(int x) int moves(int c, int to) long spread(int n, int c, int to) "
            + "long shared(int l, int a, int b) long joined(int l, int a, int b, int r) int rebate(int l, int a, int b) "
            + "int advice(int l, int s) int rest(int c) long were(int what, int v, int l, int c) "
            + "long lacking(int s, int l, int c) int oddsFor(long limit, int l, int c) int bestOwn(int p, int l, int c) "
            + "int would(int n, int rule, int v, int seed, int what) int bestRule(int n, int seed) "
            + "int dearest(int l, int c) int spell(int i) int report(int l, int i) int count(int what)";
    private static final String FULL = "class 700 1 0 0 9;class 600 2 0 0 9;class 500 3 1 0 9;class 400 4 2 1 9;"
            + "class 300 5 3 2 9;class 200 6 4 3 9;class 100 7 5 4 9;class 50 7 6 5 9;"
            + "loss 20 9;loss 90 5;loss 200 3;loss 500 2;loss 999 1;chances 3;odds 4;own 7;";

    private static final Due due = new Due();

    private LanguageTest() {
    }

    public static void main(String[] args) throws Exception {
        face();
        source(Files.readString(Path.of(args.length > 0 ? args[0] : "src/main/java/BonusLadder.java")));
        room();
        wild();
        farBeyond();
        due.end("LanguageTest");
    }

    private static void face() {
        TreeSet<String> want = new TreeSet<>();
        Matcher m = Pattern.compile("(int|long) (\\w+)\\(([^)]*)\\)").matcher(FACE);
        while (m.find()) {
            want.add(m.group(1) + " " + m.group(2) + "(" + m.group(3).replaceAll(" \\w+(,|$)", "$1") + ")");
        }
        TreeSet<String> got = new TreeSet<>();
        for (Method method : BonusLadder.class.getDeclaredMethods()) {
            List<String> types = new ArrayList<>();
            for (Class<?> type : method.getParameterTypes()) {
                types.add(type.getName());
            }
            if (!Modifier.isPrivate(method.getModifiers())) {
                got.add(method.getReturnType() + " " + method.getName() + "(" + String.join(", ", types) + ")");
            }
        }
        due.is("rule 1: the face", got.toString(), want.toString());
        due.is("the face: methods", want.size(), 54);
        int modifiers = BonusLadder.class.getModifiers();
        due.holds("rule 1: public and final", Modifier.isPublic(modifiers) && Modifier.isFinal(modifiers));
        due.is("rule 1: constructors", BonusLadder.class.getDeclaredConstructors().length, 1);
        for (Field field : BonusLadder.class.getDeclaredFields()) {
            due.holds("rule 1: " + field.getName() + " is private",
                    field.getName().equals("NONE") || Modifier.isPrivate(field.getModifiers()));
            stays(field);
        }
        due.holds("rule 11: some twelve classes", BonusLadder.class.getDeclaredClasses().length <= 11);
        for (Class<?> inside : BonusLadder.class.getDeclaredClasses()) {
            due.holds("rule 2: " + inside + " is static", Modifier.isStatic(inside.getModifiers()));
            int own = 0;
            for (Field field : inside.getDeclaredFields()) {
                own += isConstant(field) ? 0 : 1;
                stays(field);
            }
            due.holds("rule 11: some twenty fields of " + inside, own <= 20);
        }
    }

    private static void stays(Member field) {
        due.holds("rule 5: " + field.getName(), !Modifier.isStatic(field.getModifiers()) || isConstant(field));
    }

    private static boolean isConstant(Member field) {
        return Modifier.isStatic(field.getModifiers()) && Modifier.isFinal(field.getModifiers());
    }

    private static void source(String text) {
        String code = text.replaceAll("(?s)/\\*.*?\\*/", "").replaceAll("//[^\n]*", "").replaceAll("\"[^\"\n]*\"", "\"\"");
        String[] forbidden = {"\\bthrow\\b", "\\btry\\b", "\\bcatch\\b", "\\bsynchronized\\b", "\\bassert\\b", "->", "::",
            "\\bimport\\b", "\\bpackage\\b", "Exact\\b", "\\bstatic\\s*\\{", "\"\"\\s*\\+", "\\+\\s*\"\"", "\\bprotected\\b",
            "\\bRandom\\b", "\\bThread\\b", "System\\.(?!arraycopy)", "\\bInteger\\b", "\\bLong\\b", "toString|hashCode"};
        for (String word : forbidden) {
            due.holds("the source has no " + word, !Pattern.compile(word).matcher(code).find());
        }
        due.holds("rule 3: signs below 128", text.chars().allMatch(c -> c < 128));
        Pattern head = Pattern.compile("(?m)^ +(?:private |public |static |final )*[\\w\\[\\]]+ (\\w+)\\(([^)]*)\\) \\{$");
        Matcher m = head.matcher(code);
        List<String> names = new ArrayList<>();
        while (m.find()) {
            names.add(m.group(1));
            due.holds("rule 11: parameters of " + m.group(1), m.group(2).split(",").length <= 7);
            String indent = "\n" + m.group().replaceAll("\\S.*", "") + "}";
            String body = code.substring(m.start(), code.indexOf(indent, m.end()));
            due.holds("rule 11: lines of " + m.group(1), body.lines().count() <= 60);
            due.holds("rule 1: name of " + m.group(1), !m.group().contains("private ")
                    || !Pattern.compile(" " + m.group(1) + "\\(").matcher(FACE).find());
        }
        due.holds("methods are found", names.size() > 100);
    }

    /** Objects and elements that an object holds, and that calls make no more. */
    private static void room() throws Exception {
        long[] held = new long[2];
        count(new BonusLadder(), new IdentityHashMap<>(), held);
        System.out.println("an object holds " + held[0] + " objects and arrays, " + held[1] + " fields and elements");
        due.holds("rule 12: objects", held[0] < 150);
        due.holds("rule 12: fields and elements", held[1] < 6000);
        com.sun.management.ThreadMXBean threads = (com.sun.management.ThreadMXBean) ManagementFactory.getThreadMXBean();
        long made = Long.MAX_VALUE;
        for (int round = 0; round < 3; round++) {
            BonusLadder x = Due.told(FULL);
            long before = threads.getCurrentThreadAllocatedBytes();
            everyCall(x);
            made = Math.min(made, threads.getCurrentThreadAllocatedBytes() - before);
        }
        due.holds("rule 12: calls make no object, but " + made + " bytes", made < 1000);
    }

    private static void count(Object object, Map<Object, Boolean> met, long[] held) throws Exception {
        if (object == null || met.put(object, true) != null) {
            return;
        }
        held[0]++;
        if (object.getClass().isArray()) {
            int length = Array.getLength(object);
            held[1] += length;
            for (int i = 0; i < length && object instanceof Object[]; i++) {
                count(Array.get(object, i), met, held);
            }
            return;
        }
        for (Field field : object.getClass().getDeclaredFields()) {
            if (!Modifier.isStatic(field.getModifiers())) {
                held[1]++;
                field.setAccessible(true);
                if (!field.getType().isPrimitive()) {
                    count(field.get(object), met, held);
                }
            }
        }
    }

    private static long everyCall(BonusLadder x) {
        long sum = x.set(0, 0, 999) + x.sort(0, 0, 19) + x.rule(2, 8) + x.live(20, 0, 0, 1) + x.move(3) + x.begin(true)
                + x.loss(0, true) + x.quiet() + x.advice(20, 1) + x.quiet() + x.drop(0) + x.come(5, 5) + x.undo();
        sum += x.of(0, 0) + x.ofSort(0, 2) + x.life(12) + x.book(0, 0) + x.ledger(0, 0) + x.mean(true) + x.cost(20, 0)
                + x.guards(20, 0) + x.ahead(20, 0, 0, 0, true) + x.least(20, 0, 0, 0, true) + x.tells(20, 0, 0, 0, true)
                + x.gain(20, 0, 0, 0, true, 0) + x.patience(0, 3) + x.worst(20, 0) + x.bare(20, 0) + x.by(3, 9, 20, 0);
        sum += x.bestLimit(20, 0) + x.worth(20, 0, 1) + x.cheapest(20) + x.reach(0) + x.years(0, 7) + x.ways(2)
                + x.moves(0, 0) + x.spread(5, 0, 0) + x.shared(20, 0, 7) + x.joined(20, 0, 7, 9) + x.rebate(20, 0, 7)
                + x.rest(0) + x.were(0, 1, 20, 0) + x.lacking(0, 20, 0) + x.oddsFor(9999999, 20, 0);
        return sum + x.bestOwn(99, 20, 0) + x.would(20, 0, 0, 1, 0) + x.bestRule(20, 1) + x.dearest(20, 0) + x.spell(5)
                + x.report(20, 5) + x.count(7) + x.anew() + x.feed(1, 2, 3, 4, 5) + x.back(3) + x.text() + x.undo();
    }

    /** Calls with any numbers in any state: none may throw. */
    private static void wild() throws Exception {
        Random random = new Random(5);
        Method[] methods = FaceMethods.of();
        int[] edges = {Integer.MIN_VALUE, Integer.MAX_VALUE, -2, -1, 0, 1, 2, 3, 4, 5, 7, 8, 9, 12, 13, 16, 20, 21, 50, 99,
            100, 999, 1000, 9999};
        for (int run = 0; run < 300; run++) {
            BonusLadder x = run % 10 == 0 ? new BonusLadder() : Due.told(run % 3 == 0 ? FULL : "class 9 0 0 0 1;loss 9 9;");
            for (int call = 0; call < 480; call++) {
                Method method = methods[random.nextInt(methods.length)];
                Object[] args = new Object[method.getParameterCount()];
                for (int i = 0; i < args.length; i++) {
                    Class<?> type = method.getParameterTypes()[i];
                    int number = random.nextInt(3) == 0 ? edges[random.nextInt(edges.length)] : random.nextInt(8);
                    args[i] = type == boolean.class ? (Object) random.nextBoolean() : type == long.class
                            ? (Object) (random.nextBoolean() ? random.nextLong() : (long) number) : (Object) number;
                }
                try {
                    method.invoke(x, args);
                } catch (java.lang.reflect.InvocationTargetException thrown) {
                    due.is("rule 7: " + method.getName() + java.util.Arrays.toString(args), "" + thrown.getCause(), "");
                }
            }
        }
    }

    /**
     * What is answered behind the 512th call is free, but no call may throw in any state (rule 7): a life so long that its
     * years and its losses wrap around below 0, as it would behind some hundred million calls.
     */
    private static void farBeyond() throws Exception {
        Field inside = BonusLadder.class.getDeclaredField("life");
        inside.setAccessible(true);
        for (String name : new String[] {"ended", "told", "borne", "forPremiums", "forTold", "forBorne", "forGuards"}) {
            for (int start : new int[] {Integer.MAX_VALUE - 7, Integer.MIN_VALUE, -17, -1}) {
                BonusLadder x = Due.told(FULL);
                Object life = inside.get(x);
                Field field = life.getClass().getDeclaredField(name);
                field.setAccessible(true);
                field.setInt(life, start);
                String thrown = "";
                try {
                    everyCall(x);
                    for (int n = 0; n < 20; n++) {
                        liveOn(x, n);
                    }
                } catch (RuntimeException e) {
                    thrown = e.toString();
                }
                due.is("rule 7: " + name + " from " + start, thrown, "");
            }
        }
    }

    private static void liveOn(BonusLadder x, int n) {
        x.live(1, 1, 0, n);
        x.begin(n % 2 == 0);
        x.loss(0, true);
        x.loss(0, false);
        x.quiet();
        for (int k = -1; k <= 16; k++) {
            x.book(k, 1);
            x.ledger(k, 1);
        }
        x.mean(n % 2 == 0);
        x.count(8);
        x.count(9);
        x.undo();
    }

    /** The methods of the face in an order of their own, so that each run of the test is the same. */
    private static final class FaceMethods {
        static Method[] of() {
            List<Method> found = new ArrayList<>();
            for (Method method : BonusLadder.class.getDeclaredMethods()) {
                if (Modifier.isPublic(method.getModifiers())) {
                    found.add(method);
                }
            }
            found.sort(java.util.Comparator.comparing(Method::getName));
            return found.toArray(new Method[0]);
        }
    }
}
