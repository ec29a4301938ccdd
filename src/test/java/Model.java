import java.util.ArrayDeque;
import java.util.ArrayList;
import java.util.Arrays;
import java.util.List;
import java.util.regex.Matcher;
import java.util.regex.Pattern;

/**
 * The document once more, written as plainly as can be and with the whole library: whole copies for undo, recursion
 * for costs, every limit tried one by one, every way of a year counted. The tests hold BonusLadder against it.
 */
final class Model {
    static final int NONE = -1;
    private static final long NO_NUMBER = Long.MIN_VALUE;
    private static final Pattern TOKEN = Pattern.compile("[a-z]+|[0-9]+|[ \n]+|.", Pattern.DOTALL);

    private final StringBuilder tape = new StringBuilder();
    private State now = new State();
    private final ArrayDeque<State> past = new ArrayDeque<>();

    /** All that acts change. */
    private static final class State {
        List<int[]> classes = new ArrayList<>();
        List<int[]> sorts = new ArrayList<>();
        int[] rules = {2, 3, 0};
        int at;
        boolean on;
        boolean guard;
        int gone;
        int counted;
        int paidNow;
        int[] paid = new int[4];
        List<int[]> losses = new ArrayList<>();
        List<int[]> ended = new ArrayList<>();

        State copy() {
            State o = new State();
            for (int[] c : classes) {
                o.classes.add(c.clone());
            }
            for (int[] s : sorts) {
                o.sorts.add(s.clone());
            }
            o.rules = rules.clone();
            o.at = at;
            o.on = on;
            o.guard = guard;
            o.gone = gone;
            o.counted = counted;
            o.paidNow = paidNow;
            o.paid = paid.clone();
            o.losses.addAll(losses);
            o.ended.addAll(ended);
            return o;
        }

        State bornAnew() {
            State o = copy();
            o.at = 0;
            o.on = false;
            o.guard = false;
            o.gone = 0;
            o.counted = 0;
            o.paidNow = 0;
            o.paid = new int[4];
            o.losses.clear();
            o.ended.clear();
            return o;
        }

        int weights() {
            return sorts.stream().mapToInt(s -> s[1]).sum();
        }

        int next(int c, int counts) {
            return classes.get(c)[counts == 0 ? 1 : counts == 1 ? 2 : 3];
        }

        int all() {
            return Arrays.stream(paid).sum();
        }

        int begin(boolean withGuard) {
            int[] c = classes.get(at);
            on = true;
            guard = withGuard;
            paid[0] += c[0];
            paid[1] += withGuard ? c[4] : 0;
            paidNow = c[0] + (withGuard ? c[4] : 0);
            return paidNow;
        }

        int chanceGone() {
            gone++;
            int left = rules[0] - gone;
            if (left == 0) {
                ended.add(new int[] {at, paidNow, counted});
                at = next(at, counted);
                on = false;
                guard = false;
                gone = 0;
                counted = 0;
                paidNow = 0;
            }
            return left;
        }

        int lossComes(int s, boolean told) {
            int size = sorts.get(s)[0];
            int pays = told ? Math.min(size, rules[2]) : size;
            losses.add(new int[] {ended.size(), s, told ? 1 : 0});
            paid[told ? 2 : 3] += pays;
            paidNow += pays;
            if (told && !guard) {
                counted++;
            }
            if (told) {
                guard = false;
            }
            chanceGone();
            return pays;
        }

        int losses(boolean told) {
            return (int) losses.stream().filter(x -> (x[2] == 1) == told).count();
        }
    }

    /** Costs of one car (or of two joined) by recursion. */
    private static final class Eval {
        final State s;
        boolean guards = true;
        int rule;
        int limit;
        boolean worst;
        int cars = 1;
        int r;
        final long[][] costs = new long[21][8];
        final long[][] aheads = new long[21 * 8][7 * 9 * 2];

        Eval(State s) {
            this.s = s;
            for (long[] row : costs) {
                Arrays.fill(row, -1);
            }
            for (long[] row : aheads) {
                Arrays.fill(row, -1);
            }
        }

        int chances() {
            return s.rules[0] * cars;
        }

        long cost(int l, int c) {
            if (l == 0) {
                return 0;
            }
            if (costs[l][c] < 0) {
                long premium = 1000L * s.classes.get(c)[0] * cars;
                premium -= premium * r / 100;
                long least = ahead(l, c, 0, 0, false);
                if (guards) {
                    least = Math.min(least, 1000L * s.classes.get(c)[4] + ahead(l, c, 0, 0, true));
                }
                costs[l][c] = premium + least;
            }
            return costs[l][c];
        }

        boolean buys(int l, int c) {
            return l > 0 && 1000L * s.classes.get(c)[4] + ahead(l, c, 0, 0, true) < ahead(l, c, 0, 0, false);
        }

        long ahead(int l, int c, int k, int t, boolean g) {
            if (k == chances()) {
                return cost(l - 1, s.next(c, t));
            }
            int key = (k * 9 + t) * 2 + (g ? 1 : 0);
            long[] row = aheads[l * 8 + c];
            if (row[key] < 0) {
                row[key] = worst ? most(l, c, k, t, g) : weighed(l, c, k, t, g);
            }
            return row[key];
        }

        private long weighed(int l, int c, int k, int t, boolean g) {
            long odds = s.rules[1];
            long sum = (12 - odds) * s.weights() * ahead(l, c, k + 1, t, g);
            for (int[] sort : s.sorts) {
                sum += odds * sort[1] * loss(l, c, k, t, g, sort[0]);
            }
            return sum / (12L * s.weights());
        }

        private long most(int l, int c, int k, int t, boolean g) {
            long most = Long.MIN_VALUE;
            if (s.rules[1] != 12) {
                most = ahead(l, c, k + 1, t, g);
            }
            if (s.rules[1] != 0) {
                for (int[] sort : s.sorts) {
                    most = Math.max(most, loss(l, c, k, t, g, sort[0]));
                }
            }
            return most;
        }

        long told(int l, int c, int k, int t, boolean g, int size) {
            return 1000L * Math.min(size, s.rules[2]) + ahead(l, c, k + 1, g ? t : t + 1, false);
        }

        long borne(int l, int c, int k, int t, boolean g, int size) {
            return 1000L * size + ahead(l, c, k + 1, t, g);
        }

        private long loss(int l, int c, int k, int t, boolean g, int size) {
            long told = told(l, c, k, t, g, size);
            long borne = borne(l, c, k, t, g, size);
            boolean tells = rule == 0 ? told < borne : rule == 1 || rule == 3 && size > limit;
            return tells ? told : borne;
        }
    }

    /** Two cars apart: no use is made of it that the cars are alike. */
    private static final class Pair {
        final State s;
        final long[] costs = new long[21 * 64];
        final long[] aheads = new long[21 * 64 * 7 * 49];

        Pair(State s) {
            this.s = s;
            Arrays.fill(costs, -1);
            Arrays.fill(aheads, -1);
        }

        long cost(int l, int a, int b) {
            if (l == 0) {
                return 0;
            }
            int key = l * 64 + a * 8 + b;
            if (costs[key] < 0) {
                costs[key] = 1000L * s.classes.get(a)[0] + 1000L * s.classes.get(b)[0] + ahead(l, a, b, 0, 0, 0);
            }
            return costs[key];
        }

        private long ahead(int l, int a, int b, int k, int t, int u) {
            if (k == 2 * s.rules[0]) {
                return cost(l - 1, s.next(a, t), s.next(b, u));
            }
            int key = ((l * 64 + a * 8 + b) * 7 + k) * 49 + t * 7 + u;
            if (aheads[key] < 0) {
                long still = ahead(l, a, b, k + 1, t, u);
                long first = ahead(l, a, b, k + 1, t + 1, u);
                long second = ahead(l, a, b, k + 1, t, u + 1);
                long sum = (12L - s.rules[1]) * s.weights() * still;
                for (int[] sort : s.sorts) {
                    long own = 1000L * Math.min(sort[0], s.rules[2]);
                    long least = Math.min(1000L * sort[0] + still, Math.min(own + first, own + second));
                    sum += (long) s.rules[1] * sort[1] * least;
                }
                aheads[key] = sum / (12L * s.weights());
            }
            return aheads[key];
        }
    }

    // ---- told

    int feed(int a, int b, int c, int d, int e) {
        if (tape.length() + 20 > 400) {
            return NONE;
        }
        for (int word : new int[] {a, b, c, d, e}) {
            tape.append((char) (word >>> 24)).append((char) (word >> 16 & 255));
            tape.append((char) (word >> 8 & 255)).append((char) (word & 255));
        }
        return tape.length();
    }

    int back(int n) {
        if (n < 0 || n > tape.length()) {
            return NONE;
        }
        tape.setLength(tape.length() - n);
        return tape.length();
    }

    /** A fault of a text, thrown with its place. */
    private static final class Fault extends Exception {
        private static final long serialVersionUID = 1;
        final int place;

        Fault(int place) {
            this.place = place;
        }
    }

    /** The tokens of a text, each with its place; glued tells that no blank stands ahead of it. */
    private record Token(String text, int place, boolean glued) {
    }

    int text() {
        String told = tape.toString();
        tape.setLength(0);
        try {
            now = parse(told);
        } catch (Fault fault) {
            return -4 - fault.place;
        }
        past.clear();
        return now.classes.size();
    }

    private static State parse(String told) throws Fault {
        ArrayDeque<Token> tokens = new ArrayDeque<>();
        Matcher m = TOKEN.matcher(told);
        int lastEnd = -1;
        while (m.find()) {
            if (!m.group().isBlank() || !m.group().matches("[ \n]+")) {
                tokens.add(new Token(m.group(), m.start(), m.start() == lastEnd));
                lastEnd = m.end();
            }
        }
        State s = new State();
        while (!tokens.isEmpty()) {
            phrase(s, tokens, told.length());
        }
        boolean lost = s.classes.stream().anyMatch(c -> Math.max(c[1], Math.max(c[2], c[3])) >= s.classes.size());
        if (s.classes.isEmpty() || s.sorts.isEmpty() || lost) {
            throw new Fault(told.length());
        }
        return s;
    }

    private static void phrase(State s, ArrayDeque<Token> tokens, int length) throws Fault {
        Token word = tokens.poll();
        switch (word.text) {
            case "class" -> {
                if (s.classes.size() == 8) {
                    throw new Fault(word.place);
                }
                s.classes.add(new int[] {
                    number(tokens, length, 0, 999), number(tokens, length, 0, 7), number(tokens, length, 0, 7),
                    number(tokens, length, 0, 7), number(tokens, length, 0, 99)});
            }
            case "loss" -> {
                if (s.sorts.size() == 5) {
                    throw new Fault(word.place);
                }
                s.sorts.add(new int[] {number(tokens, length, 1, 999), number(tokens, length, 1, 9)});
            }
            case "chances" -> s.rules[0] = number(tokens, length, 1, 3);
            case "odds" -> s.rules[1] = number(tokens, length, 0, 12);
            case "own" -> s.rules[2] = number(tokens, length, 0, 99);
            default -> throw new Fault(word.place);
        }
        Token end = tokens.poll();
        if (end == null || !end.text.equals(";")) {
            throw new Fault(end == null ? length : end.place);
        }
    }

    private static int number(ArrayDeque<Token> tokens, int length, int low, int high) throws Fault {
        Token t = tokens.poll();
        if (t == null) {
            throw new Fault(length);
        }
        if (t.glued || !t.text.matches("[0-9]{1,3}") || Integer.parseInt(t.text) < low
                || Integer.parseInt(t.text) > high) {
            throw new Fault(t.place);
        }
        return Integer.parseInt(t.text);
    }

    // ---- acts

    private void keep() {
        past.push(now.copy());
        if (past.size() > 12) {
            past.removeLast();
        }
    }

    private boolean noClass(int c) {
        return c < 0 || c >= now.classes.size();
    }

    private boolean noSort(int s) {
        return s < 0 || s >= now.sorts.size();
    }

    private static boolean out(int v, int low, int high) {
        return v < low || v > high;
    }

    int set(int c, int what, int v) {
        if (noClass(c) || out(what, 0, 4)) {
            return NONE;
        }
        int high = what == 0 ? 999 : what == 4 ? 99 : now.classes.size() - 1;
        int was = now.classes.get(c)[what];
        if (out(v, 0, high) || was == v) {
            return NONE;
        }
        keep();
        now.classes.get(c)[what] = v;
        return was;
    }

    int sort(int s, int what, int v) {
        if (noSort(s) || out(what, 0, 1) || out(v, 1, what == 0 ? 999 : 9) || now.sorts.get(s)[what] == v) {
            return NONE;
        }
        keep();
        int was = now.sorts.get(s)[what];
        now.sorts.get(s)[what] = v;
        return was;
    }

    private static boolean noRule(int what, int v) {
        return switch (what) {
            case 0 -> out(v, 1, 3);
            case 1 -> out(v, 0, 12);
            case 2 -> out(v, 0, 99);
            default -> true;
        };
    }

    int rule(int what, int v) {
        if (noRule(what, v) || now.rules[what] == v || what == 0 && now.on) {
            return NONE;
        }
        keep();
        int was = now.rules[what];
        now.rules[what] = v;
        return was;
    }

    int begin(boolean guard) {
        if (now.on || now.classes.isEmpty()) {
            return NONE;
        }
        keep();
        return now.begin(guard);
    }

    int quiet() {
        if (!now.on) {
            return NONE;
        }
        keep();
        return now.chanceGone();
    }

    int loss(int s, boolean told) {
        if (!now.on || noSort(s)) {
            return NONE;
        }
        keep();
        return now.lossComes(s, told);
    }

    private boolean noLife(int n, int rule, int v) {
        return now.classes.isEmpty() || out(n, 1, 20) || out(rule, 0, 3) || out(v, 0, rule == 3 ? 999 : 0);
    }

    int live(int n, int rule, int v, int seed) {
        if (now.on || noLife(n, rule, v)) {
            return NONE;
        }
        keep();
        int before = now.all();
        lifeByDraws(now, n, rule, v, seed);
        return now.all() - before;
    }

    private static void lifeByDraws(State s, int n, int rule, int v, int seed) {
        Eval eval = new Eval(s);
        int x = seed;
        for (int year = 0; year < n; year++) {
            int left = n - year;
            int c = s.at;
            s.begin(rule == 0 && eval.buys(left, c));
            for (int k = 0; k < s.rules[0]; k++) {
                x = x * 1103515245 + 12345;
                if ((x >>> 8) % 12 >= s.rules[1]) {
                    s.chanceGone();
                    continue;
                }
                x = x * 1103515245 + 12345;
                int drawn = (x >>> 8) % s.weights();
                int sort = 0;
                int sum = s.sorts.get(0)[1];
                while (sum <= drawn) {
                    sort++;
                    sum += s.sorts.get(sort)[1];
                }
                int size = s.sorts.get(sort)[0];
                boolean told = switch (rule) {
                    case 0 -> eval.told(left, c, k, s.counted, s.guard, size)
                            < eval.borne(left, c, k, s.counted, s.guard, size);
                    case 1 -> true;
                    case 2 -> false;
                    default -> size > v;
                };
                s.lossComes(sort, told);
            }
        }
    }

    int come(int size, int weight) {
        if (out(size, 1, 999) || out(weight, 1, 9) || now.sorts.size() == 5 || now.classes.isEmpty()) {
            return NONE;
        }
        keep();
        now.sorts.add(new int[] {size, weight});
        return now.sorts.size() - 1;
    }

    int drop(int s) {
        if (noSort(s) || now.sorts.size() == 1) {
            return NONE;
        }
        keep();
        now.sorts.remove(s);
        return now.sorts.size();
    }

    int move(int c) {
        if (noClass(c) || now.on || now.at == c) {
            return NONE;
        }
        keep();
        int was = now.at;
        now.at = c;
        return was;
    }

    int anew() {
        keep();
        int had = now.ended.size();
        now = now.bornAnew();
        return had;
    }

    int undo() {
        if (past.isEmpty()) {
            return NONE;
        }
        now = past.pop();
        return past.size();
    }

    // ---- asked

    int of(int c, int what) {
        return noClass(c) || out(what, 0, 4) ? NONE : now.classes.get(c)[what];
    }

    int ofSort(int s, int what) {
        if (noSort(s) || out(what, 0, 2)) {
            return NONE;
        }
        return what == 2 ? now.rules[1] * now.sorts.get(s)[1] : now.sorts.get(s)[what];
    }

    int life(int what) {
        if (out(what, 0, 12) || what == 0 && now.classes.isEmpty()) {
            return NONE;
        }
        int[] all = {now.at, now.on ? 1 : 0, now.gone, now.counted, now.guard ? 1 : 0, now.ended.size(), now.paid[0],
            now.paid[1], now.paid[2], now.paid[3], now.losses(true), now.losses(false), now.all()};
        return all[what];
    }

    private static int latest(List<int[]> rows, int k, int what) {
        if (out(k, 0, Math.min(16, rows.size()) - 1) || out(what, 0, 2)) {
            return NONE;
        }
        return rows.get(rows.size() - 1 - k)[what];
    }

    int book(int k, int what) {
        return latest(now.losses, k, what);
    }

    int ledger(int k, int what) {
        return latest(now.ended, k, what);
    }

    int mean(boolean lower) {
        int size = Math.min(16, now.ended.size());
        if (size == 0) {
            return NONE;
        }
        int sum = 0;
        for (int k = 0; k < size; k++) {
            sum += ledger(k, 1);
        }
        int lowest = 1;
        while (sum * lowest % size != 0) {
            lowest++;
        }
        return lower ? lowest : sum * lowest / size;
    }

    // ---- looked at from the end

    private boolean noCost(int l, int c) {
        return out(l, 0, 20) || noClass(c);
    }

    private boolean noChance(int l, int c, int k, int t, int last) {
        return out(l, 1, 20) || noClass(c) || out(k, 0, last) || out(t, 0, 2);
    }

    long cost(int l, int c) {
        return noCost(l, c) ? NONE : new Eval(now).cost(l, c);
    }

    int guards(int l, int c) {
        return noCost(l, c) ? NONE : new Eval(now).buys(l, c) ? 1 : 0;
    }

    long ahead(int l, int c, int k, int t, boolean guard) {
        return noChance(l, c, k, t, now.rules[0]) ? NONE : new Eval(now).ahead(l, c, k, t, guard);
    }

    int least(int l, int c, int k, int t, boolean guard) {
        if (noChance(l, c, k, t, now.rules[0] - 1)) {
            return NONE;
        }
        return least(new Eval(now), l, c, k, t, guard);
    }

    private static int least(Eval e, int l, int c, int k, int t, boolean guard) {
        for (int size = 1; size <= 9999; size++) {
            if (e.told(l, c, k, t, guard, size) < e.borne(l, c, k, t, guard, size)) {
                return size;
            }
        }
        return -2;
    }

    int tells(int l, int c, int k, int t, boolean guard) {
        if (noChance(l, c, k, t, now.rules[0] - 1)) {
            return NONE;
        }
        int bits = 0;
        for (int s = 0; s < now.sorts.size(); s++) {
            bits += gain(l, c, k, t, guard, s) > 0 ? 1 << s : 0;
        }
        return bits;
    }

    long gain(int l, int c, int k, int t, boolean guard, int s) {
        if (noChance(l, c, k, t, now.rules[0] - 1) || noSort(s)) {
            return NO_NUMBER;
        }
        Eval e = new Eval(now);
        int size = now.sorts.get(s)[0];
        return e.borne(l, c, k, t, guard, size) - e.told(l, c, k, t, guard, size);
    }

    int patience(int c, int s) {
        if (noClass(c) || noSort(s)) {
            return NONE;
        }
        int l = 1;
        while (l <= 20 && gain(l, c, 0, 0, false, s) > 0) {
            l++;
        }
        return l > 20 ? -2 : l;
    }

    long worst(int l, int c) {
        Eval e = new Eval(now);
        e.guards = false;
        e.worst = true;
        return noCost(l, c) ? NONE : e.cost(l, c);
    }

    long bare(int l, int c) {
        return by(0, 0, l, c);
    }

    long by(int rule, int v, int l, int c) {
        if (noCost(l, c) || noLife(1, rule, v)) {
            return NONE;
        }
        Eval e = new Eval(now);
        e.guards = false;
        e.rule = rule;
        e.limit = v;
        return e.cost(l, c);
    }

    int bestLimit(int l, int c) {
        if (noCost(l, c)) {
            return NONE;
        }
        int best = 0;
        long least = by(3, 0, l, c);
        for (int v = 1; v <= 999; v++) {
            long found = by(3, v, l, c);
            if (found < least) {
                best = v;
                least = found;
            }
        }
        return best;
    }

    long worth(int l, int c, int other) {
        return noCost(l, c) || noClass(other) ? NO_NUMBER : cost(l, other) - cost(l, c);
    }

    int cheapest(int l) {
        if (noCost(l, 0)) {
            return NONE;
        }
        int best = 0;
        for (int c = 0; c < now.classes.size(); c++) {
            best = cost(l, c) < cost(l, best) ? c : best;
        }
        return best;
    }

    int reach(int c) {
        if (noClass(c)) {
            return NONE;
        }
        boolean[] met = new boolean[8];
        visit(c, met);
        int bits = 0;
        for (int d = 0; d < 8; d++) {
            bits += met[d] ? 1 << d : 0;
        }
        return bits;
    }

    private void visit(int c, boolean[] met) {
        if (!met[c]) {
            met[c] = true;
            for (int t = 0; t < 3; t++) {
                visit(now.next(c, t), met);
            }
        }
    }

    int years(int c, int to) {
        if (noClass(c) || noClass(to)) {
            return NONE;
        }
        int here = c;
        for (int n = 0; n < 100; n++) {
            if (here == to) {
                return n;
            }
            here = now.next(here, 0);
        }
        return -2;
    }

    // ---- by odds

    int ways(int x) {
        if (out(x, 0, 3) || now.classes.isEmpty()) {
            return NONE;
        }
        int all = (int) Math.pow(12, now.rules[0]);
        int found = 0;
        for (int way = 0; way < all; way++) {
            int losses = 0;
            int rest = way;
            for (int k = 0; k < now.rules[0]; k++) {
                losses += rest % 12 < now.rules[1] ? 1 : 0;
                rest /= 12;
            }
            found += losses == x ? 1 : 0;
        }
        return found;
    }

    int moves(int c, int to) {
        if (noClass(c) || noClass(to)) {
            return NONE;
        }
        int found = 0;
        for (int x = 0; x <= 3; x++) {
            found += now.next(c, x) == to ? ways(x) : 0;
        }
        return found;
    }

    long spread(int n, int c, int to) {
        if (noClass(c) || noClass(to) || n < 0 || (long) n * now.rules[0] > 16) {
            return NONE;
        }
        long[] here = new long[8];
        here[c] = 1;
        for (int year = 0; year < n; year++) {
            long[] then = new long[8];
            for (int from = 0; from < now.classes.size(); from++) {
                for (int into = 0; into < now.classes.size(); into++) {
                    then[into] += here[from] * moves(from, into);
                }
            }
            here = then;
        }
        return here[to];
    }

    // ---- two cars

    long shared(int l, int a, int b) {
        return noCost(l, a) || noClass(b) ? NONE : new Pair(now).cost(l, a, b);
    }

    long joined(int l, int a, int b, int r) {
        if (noCost(l, a) || noClass(b) || out(r, 0, 50)) {
            return NONE;
        }
        Eval e = new Eval(now);
        e.guards = false;
        e.cars = 2;
        e.r = r;
        return e.cost(l, now.classes.get(a)[0] >= now.classes.get(b)[0] ? a : b);
    }

    int rebate(int l, int a, int b) {
        if (noCost(l, a) || noClass(b)) {
            return NONE;
        }
        for (int r = 0; r <= 50; r++) {
            if (joined(l, a, b, r) < bare(l, a) + bare(l, b)) {
                return r;
            }
        }
        return -2;
    }

    // ---- what to do now

    int advice(int l, int s) {
        if (!now.on || out(l, 1, 20) || noSort(s)) {
            return NONE;
        }
        return gain(l, now.at, now.gone, Math.min(2, now.counted), now.guard, s) > 0 ? 1 : 0;
    }

    int rest(int c) {
        if (noClass(c)) {
            return NONE;
        }
        List<Integer> met = new ArrayList<>();
        int here = c;
        while (!met.contains(here)) {
            met.add(here);
            here = now.next(here, 0);
        }
        return here;
    }

    // ---- were

    private static long costIf(State s, int l, int c) {
        return new Eval(s).cost(l, c);
    }

    long were(int what, int v, int l, int c) {
        if (noCost(l, c) || noRule(what, v)) {
            return NONE;
        }
        State other = now.copy();
        other.rules[what] = v;
        return costIf(other, l, c);
    }

    long lacking(int s, int l, int c) {
        if (noCost(l, c) || noSort(s) || now.sorts.size() == 1) {
            return NONE;
        }
        State other = now.copy();
        other.sorts.remove(s);
        return costIf(other, l, c);
    }

    int oddsFor(long limit, int l, int c) {
        if (noCost(l, c)) {
            return NONE;
        }
        for (int odds = 0; odds <= 12; odds++) {
            if (were(1, odds, l, c) >= limit) {
                return odds;
            }
        }
        return -2;
    }

    int bestOwn(int p, int l, int c) {
        if (noCost(l, c) || out(p, 0, 9999)) {
            return NONE;
        }
        int best = 0;
        for (int own = 1; own <= 99; own++) {
            long gain = were(2, best, l, c) - (long) p * best * l - (were(2, own, l, c) - (long) p * own * l);
            best = gain > 0 ? own : best;
        }
        return best;
    }

    int would(int n, int rule, int v, int seed, int what) {
        if (noLife(n, rule, v) || out(what, 0, 3)) {
            return NONE;
        }
        State other = now.bornAnew();
        other.at = now.at;
        lifeByDraws(other, n, rule, v, seed);
        return new int[] {other.all(), other.losses(true), other.losses(false), other.at}[what];
    }

    int bestRule(int n, int seed) {
        if (noLife(n, 0, 0)) {
            return NONE;
        }
        int best = 0;
        for (int rule = 1; rule <= 2; rule++) {
            best = would(n, rule, 0, seed, 0) < would(n, best, 0, seed, 0) ? rule : best;
        }
        return best;
    }

    int dearest(int l, int c) {
        if (noCost(l, c) || l == 0) {
            return NONE;
        }
        int best = -2;
        for (int fee = 0; fee <= 99; fee++) {
            State other = now.copy();
            other.classes.get(c)[4] = fee;
            best = new Eval(other).buys(l, c) ? fee : best;
        }
        return best;
    }

    // ---- texts

    private static int sign(String told, int i) {
        return i == NONE ? told.length() : i < told.length() ? told.charAt(i) : -2;
    }

    String spelled() {
        StringBuilder b = new StringBuilder();
        for (int[] c : now.classes) {
            b.append(String.format("class %d %d %d %d %d;", c[0], c[1], c[2], c[3], c[4]));
        }
        for (int[] s : now.sorts) {
            b.append(String.format("loss %d %d;", s[0], s[1]));
        }
        return b.append(String.format("chances %d;odds %d;own %d;", now.rules[0], now.rules[1], now.rules[2])).toString();
    }

    int spell(int i) {
        return i < NONE ? NONE : sign(spelled(), i);
    }

    int report(int l, int i) {
        if (out(l, 1, 20) || i < NONE || now.classes.isEmpty()) {
            return NONE;
        }
        StringBuilder b = new StringBuilder();
        Eval e = new Eval(now);
        for (int c = 0; c < now.classes.size(); c++) {
            boolean guard = e.buys(l, c);
            int least = least(e, l, c, 0, 0, guard);
            b.append("class ").append(c).append(guard ? " guard" : "");
            b.append(least < 0 ? " none;" : " least " + least + ";");
        }
        return sign(b.toString(), i);
    }

    int count(int what) {
        if (out(what, 0, 9)) {
            return NONE;
        }
        return new int[] {now.classes.size(), now.sorts.size(), now.rules[0], now.rules[1], now.rules[2], past.size(),
            tape.length(), now.weights(), Math.min(16, now.losses.size()), Math.min(16, now.ended.size())}[what];
    }
}
