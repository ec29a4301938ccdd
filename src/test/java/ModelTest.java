import java.lang.reflect.Method;
import java.util.ArrayDeque;
import java.util.ArrayList;
import java.util.List;
import java.util.Random;

/** Random runs of calls: every answer of BonusLadder is held against the plain model of the document. */
public final class ModelTest {
    /**
     * Each method with how often it is called and what kinds of numbers it takes: l years, c class, w what, v value,
     * s sort, k chances gone, t losses that count, n years of a life, r rule, x seed, h hundredths, p price, i place,
     * L a limit of cost, y years of a spread, b boolean, z size, e weight, q a class part's value.
     */
    private static final String[] CALLS = {
        "back 1 k", "text 1 ", "set 6 cwq", "sort 6 swz", "rule 8 wv", "begin 30 b", "quiet 14 ", "loss 24 sb",
        "live 8 nrvx", "come 4 ze", "drop 3 s", "move 5 c", "anew 1 ", "undo 14 ", "of 3 cw", "ofSort 3 sw",
        "life 20 W", "book 8 Kw", "ledger 8 Kw", "mean 4 b", "cost 8 lc", "guards 5 lc", "ahead 8 lcktb",
        "least 8 lcktb", "tells 8 lcktb", "gain 8 lcktbs", "patience 2 cs", "worst 6 lc", "bare 6 lc", "by 8 rvlc",
        "bestLimit 1 lc", "worth 3 lcc", "cheapest 2 l", "reach 3 c", "years 4 cc", "ways 3 k", "moves 4 cc",
        "spread 4 ycc", "shared 2 lcc", "joined 5 lcch", "rebate 2 lcc", "advice 12 ls", "rest 3 c", "were 6 wvlc",
        "lacking 4 slc", "oddsFor 3 Llc", "bestOwn 1 plc", "would 6 nrvxw", "bestRule 3 nx", "dearest 2 lc",
        "spell 4 i", "report 4 li", "count 10 W"};

    private final Random random;
    private final BonusLadder ladder = new BonusLadder();
    private final Model model = new Model();
    private final ArrayDeque<String> latest = new ArrayDeque<>();
    private int wrong;
    private int calls;

    private ModelTest(long seed) {
        random = new Random(seed);
    }

    public static void main(String[] args) throws Exception {
        List<String[]> urn = new ArrayList<>();
        for (String call : CALLS) {
            String[] parts = (call + " ").split(" ", -1);
            for (int i = 0; i < Integer.parseInt(parts[1]); i++) {
                urn.add(parts);
            }
        }
        int wrong = 0;
        for (int run = 0; run < 240 && wrong == 0; run++) {
            wrong += new ModelTest(run).play(urn);
        }
        for (int run = 0; run < 4000 && wrong == 0; run++) {
            wrong += new ModelTest(1_000_000 + run).tell();
        }
        System.out.println(wrong == 0 ? "the model and the class agree" : wrong + " answers are not as due");
        System.exit(wrong == 0 ? 0 : 1);
    }

    /** A run of some 500 calls, most of them on a good text. */
    private int play(List<String[]> urn) throws Exception {
        if (random.nextInt(20) != 0) {
            feed(goodText());
            check("text", new Object[0]);
        }
        while (calls < 512 - 23 && wrong == 0) {
            String[] call = urn.get(random.nextInt(urn.size()));
            if (call[0].equals("text") && random.nextBoolean()) {
                feed(random.nextBoolean() ? goodText() : brokenText());
            }
            Object[] args = new Object[call[2].length()];
            for (int i = 0; i < args.length; i++) {
                args[i] = number(call[2].charAt(i), args, i);
            }
            check(call[0], args);
        }
        return wrong;
    }

    /** Texts with a few bytes spoilt: how they are read, and that a fault leaves all else. */
    private int tell() throws Exception {
        // an object is promised for 512 calls; one round takes 270 at most
        for (int i = 0; i < 6 && wrong == 0 && calls < 512 - 270; i++) {
            feed(random.nextInt(4) == 0 ? goodText() : brokenText());
            check("text", new Object[0]);
            for (int what = 0; what < 10; what++) {
                check("count", new Object[] {what});
            }
            int length = model.spell(-1);
            for (int k = -2; k <= length; k++) {
                check("spell", new Object[] {k});
            }
        }
        return wrong;
    }

    private void feed(String told) throws Exception {
        StringBuilder padded = new StringBuilder(told);
        while (padded.length() % 20 != 0) {
            padded.append((char) random.nextInt(256));
        }
        for (int at = 0; at < padded.length(); at += 20) {
            Object[] args = new Object[5];
            for (int i = 0; i < 5; i++) {
                int word = 0;
                for (int j = 0; j < 4; j++) {
                    word = word << 8 | padded.charAt(at + 4 * i + j);
                }
                args[i] = word;
            }
            check("feed", args);
        }
        check("back", new Object[] {padded.length() - told.length()});
    }

    private void check(String name, Object[] args) throws Exception {
        calls++;
        Class<?>[] types = new Class<?>[args.length];
        for (int i = 0; i < args.length; i++) {
            types[i] = args[i] instanceof Boolean ? boolean.class : args[i] instanceof Long ? long.class : int.class;
        }
        Method asked = BonusLadder.class.getMethod(name, types);
        Method due = Model.class.getDeclaredMethod(name, types);
        Object got = asked.invoke(ladder, args);
        Object want = due.invoke(model, args);
        latest.add(name + java.util.Arrays.toString(args) + " " + got);
        if (latest.size() > 15) {
            latest.poll();
        }
        if (!got.equals(want)) {
            wrong++;
            System.out.println(name + java.util.Arrays.toString(args) + " answered " + got + ", due is " + want);
            System.out.println("on " + model.spelled());
            System.out.println("behind " + latest);
        }
    }

    private int around(int low, int high) {
        int chosen = random.nextInt(20);
        if (chosen == 0) {
            return low - 1;
        }
        if (chosen == 1) {
            return high + 1;
        }
        if (chosen == 2) {
            return random.nextBoolean() ? low : high;
        }
        if (chosen == 3) {
            return random.nextInt(4) == 0 ? random.nextInt() : random.nextBoolean() ? low : high;
        }
        return low + random.nextInt(high - low + 1);
    }

    private Object number(char kind, Object[] args, int at) {
        int classes = Math.max(1, model.count(0));
        int sorts = Math.max(1, model.count(1));
        switch (kind) {
            case 'l': return random.nextInt(3) == 0 ? around(0, 20) : around(0, 6);
            case 'c': return around(0, classes - 1);
            case 's': return around(0, sorts - 1);
            case 'w': return around(0, at == 0 ? 2 : 4);
            case 'W': return around(0, 12);
            case 'v': return at > 0 && args[at - 1].equals(3) ? around(0, 999) : ruleValue(args[at - 1]);
            case 'k': return around(0, model.count(2));
            case 'K': return around(0, 15);
            case 't': return around(0, 2);
            case 'n': return around(1, 20);
            case 'r': return around(0, 3);
            case 'x': return random.nextInt();
            case 'h': return around(0, 50);
            case 'p': return around(0, random.nextBoolean() ? 999 : 9999);
            case 'i': return around(0, Math.max(1, model.spell(-1)));
            case 'y': return around(0, 16 / model.count(2));
            case 'b': return random.nextBoolean();
            case 'z': return around(1, args.length > 2 && args[1].equals(1) ? 9 : 999);
            case 'e': return around(1, 9);
            case 'q': return args[1].equals(0) ? around(0, 999) : args[1].equals(4) ? around(0, 99) : around(0, classes - 1);
            case 'L': return (long) random.nextInt(random.nextBoolean() ? 1_000_000 : 20_000_000);
            default: throw new IllegalStateException("kind " + kind);
        }
    }

    private int ruleValue(Object what) {
        if (random.nextInt(3) == 0) {
            return 0;
        }
        return what.equals(0) ? around(1, 3) : what.equals(1) ? around(0, 12) : around(0, 99);
    }

    private String blanks(boolean needed) {
        StringBuilder b = new StringBuilder(needed ? random.nextInt(3) == 0 ? "\n" : " " : "");
        while (random.nextInt(12) == 0) {
            b.append(random.nextBoolean() ? ' ' : '\n');
        }
        return b.toString();
    }

    private String phrase(String word, int... numbers) {
        StringBuilder b = new StringBuilder(blanks(false)).append(word);
        for (int n : numbers) {
            b.append(blanks(true));
            String digits = Integer.toString(n);
            b.append("0".repeat(random.nextInt(9) == 0 ? Math.max(0, random.nextInt(4 - Math.min(3, digits.length()))) : 0));
            b.append(digits);
        }
        return b.append(blanks(false)).append(';').append(blanks(false)).toString();
    }

    private String goodText() {
        int classes = 1 + random.nextInt(8);
        int sorts = 1 + random.nextInt(5);
        boolean wild = random.nextInt(3) == 0;
        int step = 1 + random.nextInt(120);
        List<String> phrases = new ArrayList<>();
        for (int c = 0; c < classes; c++) {
            int free = wild ? random.nextInt(classes) : Math.min(classes - 1, c + 1);
            int one = wild ? random.nextInt(classes) : Math.max(0, c - 1 - random.nextInt(2));
            int two = wild ? random.nextInt(classes) : Math.max(0, c - 2 - random.nextInt(3));
            int premium = wild ? random.nextInt(1000) : Math.min(999, step * (classes - c));
            phrases.add(phrase("class", premium, free, one, two, random.nextInt(random.nextBoolean() ? 12 : 100)));
        }
        for (int s = 0; s < sorts; s++) {
            phrases.add(random.nextInt(phrases.size() + 1),
                    phrase("loss", 1 + random.nextInt(random.nextBoolean() ? 100 : 999), 1 + random.nextInt(9)));
        }
        for (int i = random.nextInt(5); i > 0; i--) {
            int what = random.nextInt(3);
            phrases.add(random.nextInt(phrases.size() + 1), what == 0 ? phrase("chances", 1 + random.nextInt(3))
                    : what == 1 ? phrase("odds", random.nextInt(13)) : phrase("own", random.nextInt(100)));
        }
        String told = String.join("", phrases);
        return told.length() > 400 ? goodText() : told;
    }

    private String brokenText() {
        StringBuilder b = new StringBuilder(goodText());
        for (int i = 1 + random.nextInt(2); i > 0 && b.length() > 0; i--) {
            int at = random.nextInt(b.length());
            switch (random.nextInt(6)) {
                case 0 -> b.deleteCharAt(at);
                case 1 -> b.setCharAt(at, "0123456789 \n;abcdlosw".charAt(random.nextInt(21)));
                case 2 -> b.setCharAt(at, (char) random.nextInt(256));
                case 3 -> b.insert(at, "0123456789 \n;abcdlosw".charAt(random.nextInt(21)));
                case 4 -> b.setLength(at);
                default -> b.insert(at, new String[] {"class 1 0 0 0 0;", "loss 1 1;", "odds 13;", "own 1 ", "1000",
                    "0000", "class"}[random.nextInt(7)]);
            }
        }
        return b.length() > 400 ? brokenText() : b.toString();
    }
}
