/**
 * Bonus hunger: a ladder of premium classes, losses by sorts and odds, what to tell and what to bear,
 * two cars in one house, a life by hand or by draws, and what things would be worth.
 *
 * <p>Every row is made once, with the object, and used again by each call: a call makes no object.
 */
public final class BonusLadder {
    public static final int NONE = -1;

    private static final int NOT_ANY = -2;
    private static final long NO_NUMBER = -9223372036854775808L;

    private static final int MOST_CLASSES = 8;
    private static final int CLASS_PARTS = 5;
    private static final int PREMIUM = 0;
    private static final int FREE = 1;
    private static final int TWO = 3;
    private static final int FEE = 4;

    private static final int MOST_SORTS = 5;
    private static final int SORT_PARTS = 2;
    private static final int SIZE = 0;
    private static final int WEIGHT = 1;

    private static final int RULE_PARTS = 3;
    private static final int CHANCES = 0;
    private static final int ODDS = 1;
    private static final int OWN = 2;

    private static final int[] CLASS_HIGH = {999, 7, 7, 7, 99};
    private static final int[] SORT_HIGH = {999, 9};
    private static final int[] RULE_LOW = {1, 0, 0};
    private static final int[] RULE_HIGH = {3, 12, 99};
    private static final int[] RULE_AT_FIRST = {2, 3, 0};

    private static final int WORD_CLASS = 0;
    private static final int WORD_LOSS = 1;
    private static final int WORD_CHANCES = 2;
    private static final int WORDS = 5;

    private static final int MILL = 1000;
    private static final int DOZEN = 12;
    private static final int MOST_YEARS = 20;
    private static final int MOST_CHANCES = 6;
    private static final int COUNTS = 3;
    private static final int MOST_LIMIT = 999;
    private static final int MOST_SIZE = 9999;
    private static final int MOST_REBATE = 50;
    private static final int MOST_PRICE = 9999;
    private static final int MOST_SPREAD = 16;

    private static final int BY_COST = 0;
    private static final int ALL_TOLD = 1;
    private static final int ALL_BORNE = 2;
    private static final int ABOVE_LIMIT = 3;

    private static final int KEPT = 16;
    private static final int ENTRY_PARTS = 3;
    private static final int ACTS_KEPT = 12;
    private static final int TAPE_LENGTH = 400;
    private static final int FEED_LENGTH = 20;
    private static final int PAGE_LENGTH = 256;

    private final Tape tape = new Tape();
    private final Page page = new Page();
    private final Terms terms = new Terms();
    private final Terms otherTerms = new Terms();
    private final Life life = new Life();
    private final Life otherLife = new Life();
    private final Past past = new Past();
    private final Outlook costs = new Outlook(terms);
    private final Outlook trial = new Outlook(terms);
    private final House house = new House();
    private final Draws draws = new Draws();
    private final long[] waysNow = new long[MOST_CLASSES];
    private final long[] waysThen = new long[MOST_CLASSES];

    public BonusLadder() {
    }

    // ---- told

    public int feed(int a, int b, int c, int d, int e) {
        if (tape.length + FEED_LENGTH > TAPE_LENGTH) {
            return NONE;
        }
        tape.append(a);
        tape.append(b);
        tape.append(c);
        tape.append(d);
        tape.append(e);
        return tape.length;
    }

    public int back(int n) {
        if (n < 0 || n > tape.length) {
            return NONE;
        }
        tape.length -= n;
        return tape.length;
    }

    public int text() {
        int fault = tape.parse();
        tape.length = 0;
        if (fault != NONE) {
            return -4 - fault;
        }
        terms.copy(tape.found);
        life.clear();
        past.forget();
        costs.look(terms, true);
        return terms.classes;
    }

    // ---- acts

    public int set(int c, int what, int v) {
        if (!terms.hasClass(c) || what < 0 || what >= CLASS_PARTS || v < 0 || v > highestPart(what)) {
            return NONE;
        }
        int was = terms.part(c, what);
        if (was == v) {
            return NONE;
        }
        keepForUndo();
        terms.setPart(c, what, v);
        return was;
    }

    public int sort(int s, int what, int v) {
        if (!terms.hasSort(s) || what < 0 || what >= SORT_PARTS || v < 1 || v > SORT_HIGH[what]) {
            return NONE;
        }
        int was = terms.sortPart(s, what);
        if (was == v) {
            return NONE;
        }
        keepForUndo();
        terms.setSortPart(s, what, v);
        return was;
    }

    public int rule(int what, int v) {
        if (!isRule(what, v) || what == CHANCES && life.on) {
            return NONE;
        }
        int was = terms.rules[what];
        if (was == v) {
            return NONE;
        }
        keepForUndo();
        terms.rules[what] = v;
        return was;
    }

    public int begin(boolean guard) {
        if (life.on || terms.classes == 0) {
            return NONE;
        }
        keepForUndo();
        return life.startYear(terms, guard);
    }

    public int quiet() {
        if (!life.on) {
            return NONE;
        }
        keepForUndo();
        return life.passChance(terms);
    }

    public int loss(int s, boolean told) {
        if (!life.on || !terms.hasSort(s)) {
            return NONE;
        }
        keepForUndo();
        int paid = life.takeLoss(terms, s, told);
        life.passChance(terms);
        return paid;
    }

    public int live(int n, int rule, int v, int seed) {
        if (life.on || !canLive(n, rule, v)) {
            return NONE;
        }
        keepForUndo();
        return liveByDraws(life, n, rule, v, seed);
    }

    public int come(int size, int weight) {
        if (size < 1 || size > SORT_HIGH[SIZE] || weight < 1 || weight > SORT_HIGH[WEIGHT]) {
            return NONE;
        }
        if (terms.sorts >= MOST_SORTS || terms.classes == 0) {
            return NONE;
        }
        keepForUndo();
        terms.addSort(size, weight);
        return terms.sorts - 1;
    }

    public int drop(int s) {
        if (!terms.hasSort(s) || terms.sorts == 1) {
            return NONE;
        }
        keepForUndo();
        terms.removeSort(s);
        return terms.sorts;
    }

    public int move(int c) {
        if (!terms.hasClass(c) || life.on || life.place == c) {
            return NONE;
        }
        keepForUndo();
        int was = life.place;
        life.place = c;
        return was;
    }

    public int anew() {
        keepForUndo();
        int had = life.ended;
        life.clear();
        return had;
    }

    public int undo() {
        if (!past.takeBack(terms, life)) {
            return NONE;
        }
        costs.look(terms, true);
        return past.kept;
    }

    // ---- asked

    public int of(int c, int what) {
        if (!terms.hasClass(c) || what < 0 || what >= CLASS_PARTS) {
            return NONE;
        }
        return terms.part(c, what);
    }

    public int ofSort(int s, int what) {
        if (!terms.hasSort(s)) {
            return NONE;
        }
        switch (what) {
            case 0:
                return terms.sortPart(s, SIZE);
            case 1:
                return terms.sortPart(s, WEIGHT);
            case 2:
                return terms.odds() * terms.sortPart(s, WEIGHT);
            default:
                return NONE;
        }
    }

    public int life(int what) {
        switch (what) {
            case 0:
                return terms.classes == 0 ? NONE : life.place;
            case 1:
                return life.on ? 1 : 0;
            case 2:
                return life.gone;
            case 3:
                return life.counted;
            case 4:
                return life.guarded ? 1 : 0;
            case 5:
                return life.ended;
            case 6:
                return life.forPremiums;
            case 7:
                return life.forGuards;
            case 8:
                return life.forTold;
            case 9:
                return life.forBorne;
            case 10:
                return life.told;
            case 11:
                return life.borne;
            case 12:
                return life.allPaid();
            default:
                return NONE;
        }
    }

    public int book(int k, int what) {
        return entry(life.book, life.told + life.borne, k, what);
    }

    public int ledger(int k, int what) {
        return entry(life.ledger, life.ended, k, what);
    }

    public int mean(boolean lower) {
        int known = Math.min(KEPT, life.ended);
        if (known <= 0) {
            return NONE;
        }
        int paid = 0;
        for (int k = 0; k < known; k++) {
            paid += entry(life.ledger, life.ended, k, 1);
        }
        int common = commonDivisor(paid, known);
        return (lower ? known : paid) / common;
    }

    // ---- looked at from the end

    public long cost(int l, int c) {
        if (!isAsked(l, c)) {
            return NONE;
        }
        return costs.costOf(l, c);
    }

    public int guards(int l, int c) {
        if (!isAsked(l, c)) {
            return NONE;
        }
        if (l == 0) {
            return 0;
        }
        costs.learn(l - 1);
        return costs.buys(l, c) ? 1 : 0;
    }

    public long ahead(int l, int c, int k, int t, boolean guard) {
        if (!isState(l, c, k, t)) {
            return NONE;
        }
        costs.learn(l - 1);
        costs.lookAhead(l, c, k, t, guard);
        return costs.aheadOf(k, t, guard);
    }

    public int least(int l, int c, int k, int t, boolean guard) {
        if (!isState(l, c, k, t) || k == terms.chances()) {
            return NONE;
        }
        costs.learn(l - 1);
        costs.lookAhead(l, c, k, t, guard);
        return costs.leastTold(k, t, guard);
    }

    public int tells(int l, int c, int k, int t, boolean guard) {
        if (!isState(l, c, k, t) || k == terms.chances()) {
            return NONE;
        }
        costs.learn(l - 1);
        costs.lookAhead(l, c, k, t, guard);
        int bits = 0;
        for (int s = 0; s < terms.sorts; s++) {
            if (costs.gainOf(k, t, guard, s) > 0) {
                bits |= 1 << s;
            }
        }
        return bits;
    }

    public long gain(int l, int c, int k, int t, boolean guard, int s) {
        if (!isState(l, c, k, t) || k == terms.chances() || !terms.hasSort(s)) {
            return NO_NUMBER;
        }
        costs.learn(l - 1);
        costs.lookAhead(l, c, k, t, guard);
        return costs.gainOf(k, t, guard, s);
    }

    public int patience(int c, int s) {
        if (!terms.hasClass(c) || !terms.hasSort(s)) {
            return NONE;
        }
        for (int l = 1; l <= MOST_YEARS; l++) {
            costs.learn(l - 1);
            costs.lookAhead(l, c, 0, 0, false);
            if (costs.gainOf(0, 0, false, s) <= 0) {
                return l;
            }
        }
        return NOT_ANY;
    }

    public long worst(int l, int c) {
        if (!isAsked(l, c)) {
            return NONE;
        }
        trial.look(terms, false);
        trial.atWorst = true;
        return trial.costOf(l, c);
    }

    public long bare(int l, int c) {
        if (!isAsked(l, c)) {
            return NONE;
        }
        return bareCost(l, c);
    }

    public long by(int rule, int v, int l, int c) {
        if (!isAsked(l, c) || !isThumb(rule, v)) {
            return NONE;
        }
        return costByRule(rule, v, l, c);
    }

    public int bestLimit(int l, int c) {
        if (!isAsked(l, c)) {
            return NONE;
        }
        int best = 0;
        long least = costByRule(ABOVE_LIMIT, 0, l, c);
        // between two sizes the limit tells the same losses, so only a size can be a lesser cost's first limit
        for (int s = 0; s < terms.sorts; s++) {
            int limit = terms.sortPart(s, SIZE);
            long found = costByRule(ABOVE_LIMIT, limit, l, c);
            if (found < least || found == least && limit < best) {
                least = found;
                best = limit;
            }
        }
        return best;
    }

    public long worth(int l, int c, int other) {
        if (!isAsked(l, c) || !terms.hasClass(other)) {
            return NO_NUMBER;
        }
        return costs.costOf(l, other) - costs.costOf(l, c);
    }

    public int cheapest(int l) {
        if (!isAsked(l, 0)) {
            return NONE;
        }
        int best = 0;
        for (int c = 1; c < terms.classes; c++) {
            if (costs.costOf(l, c) < costs.costOf(l, best)) {
                best = c;
            }
        }
        return best;
    }

    public int reach(int c) {
        if (!terms.hasClass(c)) {
            return NONE;
        }
        int bits = 1 << c;
        // each round but the last adds a class, so as many rounds as there are classes find all
        for (int round = 0; round < terms.classes; round++) {
            bits |= stepFrom(bits);
        }
        return bits;
    }

    public int years(int c, int to) {
        if (!terms.hasClass(c) || !terms.hasClass(to)) {
            return NONE;
        }
        int here = c;
        for (int n = 0; n < terms.classes; n++) {
            if (here == to) {
                return n;
            }
            here = terms.next(here, 0);
        }
        return NOT_ANY;
    }

    // ---- by odds

    public int ways(int x) {
        if (x < 0 || x > 3 || terms.classes == 0) {
            return NONE;
        }
        return waysOf(x);
    }

    public int moves(int c, int to) {
        if (!terms.hasClass(c) || !terms.hasClass(to)) {
            return NONE;
        }
        int sum = 0;
        for (int x = 0; x <= terms.chances(); x++) {
            if (terms.next(c, x) == to) {
                sum += waysOf(x);
            }
        }
        return sum;
    }

    public long spread(int n, int c, int to) {
        if (!terms.hasClass(c) || !terms.hasClass(to)) {
            return NONE;
        }
        if (n < 0 || n > MOST_SPREAD || n * terms.chances() > MOST_SPREAD) {
            return NONE;
        }
        for (int d = 0; d < MOST_CLASSES; d++) {
            waysNow[d] = d == c ? 1 : 0;
        }
        for (int year = 0; year < n; year++) {
            spreadOneYear();
        }
        return waysNow[to];
    }

    // ---- two cars

    public long shared(int l, int a, int b) {
        if (!isAsked(l, a) || !terms.hasClass(b)) {
            return NONE;
        }
        return house.costOf(terms, l, a, b);
    }

    public long joined(int l, int a, int b, int r) {
        if (!isAsked(l, a) || !terms.hasClass(b) || r < 0 || r > MOST_REBATE) {
            return NONE;
        }
        return joinedCost(l, joinedClass(a, b), r);
    }

    public int rebate(int l, int a, int b) {
        if (!isAsked(l, a) || !terms.hasClass(b)) {
            return NONE;
        }
        long apart = bareCost(l, a) + bareCost(l, b);
        int c = joinedClass(a, b);
        if (joinedCost(l, c, MOST_REBATE) >= apart) {
            return NOT_ANY;
        }
        int low = 0;
        int high = MOST_REBATE;
        // a greater rebate never costs more, so halving finds the first that is enough
        for (int step = 0; step < MOST_REBATE && low < high; step++) {
            int middle = (low + high) / 2;
            if (joinedCost(l, c, middle) < apart) {
                high = middle;
            } else {
                low = middle + 1;
            }
        }
        return low;
    }

    // ---- what to do now

    public int advice(int l, int s) {
        if (!life.on || l < 1 || l > MOST_YEARS || !terms.hasSort(s)) {
            return NONE;
        }
        int t = Math.min(2, life.counted);
        costs.learn(l - 1);
        costs.lookAhead(l, life.place, life.gone, t, life.guarded);
        return costs.gainOf(life.gone, t, life.guarded, s) > 0 ? 1 : 0;
    }

    public int rest(int c) {
        if (!terms.hasClass(c)) {
            return NONE;
        }
        int met = 0;
        int here = c;
        for (int n = 0; n <= terms.classes && (met >> here & 1) == 0; n++) {
            met |= 1 << here;
            here = terms.next(here, 0);
        }
        return here;
    }

    // ---- were

    public long were(int what, int v, int l, int c) {
        if (!isAsked(l, c) || !isRule(what, v)) {
            return NONE;
        }
        return costWere(what, v, l, c);
    }

    public long lacking(int s, int l, int c) {
        if (!isAsked(l, c) || !terms.hasSort(s) || terms.sorts == 1) {
            return NONE;
        }
        otherTerms.copy(terms);
        otherTerms.removeSort(s);
        trial.look(otherTerms, true);
        return trial.costOf(l, c);
    }

    public int oddsFor(long limit, int l, int c) {
        if (!isAsked(l, c)) {
            return NONE;
        }
        for (int odds = 0; odds <= DOZEN; odds++) {
            if (costWere(ODDS, odds, l, c) >= limit) {
                return odds;
            }
        }
        return NOT_ANY;
    }

    public int bestOwn(int p, int l, int c) {
        if (!isAsked(l, c) || p < 0 || p > MOST_PRICE) {
            return NONE;
        }
        int best = 0;
        long least = costWere(OWN, 0, l, c);
        for (int own = 1; own <= RULE_HIGH[OWN]; own++) {
            long found = costWere(OWN, own, l, c) - (long) p * own * l;
            if (found < least) {
                least = found;
                best = own;
            }
        }
        return best;
    }

    public int would(int n, int rule, int v, int seed, int what) {
        if (what < 0 || what > 3 || !canLive(n, rule, v)) {
            return NONE;
        }
        int paid = liveByDraws(lifeElsewhere(), n, rule, v, seed);
        switch (what) {
            case 0:
                return paid;
            case 1:
                return otherLife.told;
            case 2:
                return otherLife.borne;
            default:
                return otherLife.place;
        }
    }

    public int bestRule(int n, int seed) {
        if (!canLive(n, BY_COST, 0)) {
            return NONE;
        }
        int best = BY_COST;
        int least = liveByDraws(lifeElsewhere(), n, BY_COST, 0, seed);
        for (int rule = ALL_TOLD; rule <= ALL_BORNE; rule++) {
            int paid = liveByDraws(lifeElsewhere(), n, rule, 0, seed);
            if (paid < least) {
                least = paid;
                best = rule;
            }
        }
        return best;
    }

    public int dearest(int l, int c) {
        if (!isAsked(l, c) || l == 0) {
            return NONE;
        }
        otherTerms.copy(terms);
        for (int fee = CLASS_HIGH[FEE]; fee >= 0; fee--) {
            otherTerms.setPart(c, FEE, fee);
            trial.look(otherTerms, true);
            trial.learn(l - 1);
            if (trial.buys(l, c)) {
                return fee;
            }
        }
        return NOT_ANY;
    }

    // ---- texts

    public int spell(int i) {
        if (i < NONE) {
            return NONE;
        }
        page.length = 0;
        for (int c = 0; c < terms.classes; c++) {
            page.putWord(wordOf(WORD_CLASS));
            for (int what = 0; what < CLASS_PARTS; what++) {
                page.putNumber(terms.part(c, what));
            }
            page.endPhrase();
        }
        for (int s = 0; s < terms.sorts; s++) {
            page.putWord(wordOf(WORD_LOSS));
            page.putNumber(terms.sortPart(s, SIZE));
            page.putNumber(terms.sortPart(s, WEIGHT));
            page.endPhrase();
        }
        for (int what = 0; what < RULE_PARTS; what++) {
            page.putWord(wordOf(WORD_CHANCES + what));
            page.putNumber(terms.rules[what]);
            page.endPhrase();
        }
        return page.signAt(i);
    }

    public int report(int l, int i) {
        if (l < 1 || l > MOST_YEARS || i < NONE || terms.classes == 0) {
            return NONE;
        }
        page.length = 0;
        costs.learn(l - 1);
        for (int c = 0; c < terms.classes; c++) {
            boolean guard = costs.buys(l, c);
            int least = costs.leastTold(0, 0, guard);
            page.putWord(wordOf(WORD_CLASS));
            page.putNumber(c);
            if (guard) {
                page.putWord("guard");
            }
            if (least == NOT_ANY) {
                page.putWord("none");
            } else {
                page.putWord("least");
                page.putNumber(least);
            }
            page.endPhrase();
        }
        return page.signAt(i);
    }

    public int count(int what) {
        switch (what) {
            case 0:
                return terms.classes;
            case 1:
                return terms.sorts;
            case 2:
                return terms.chances();
            case 3:
                return terms.odds();
            case 4:
                return terms.own();
            case 5:
                return past.kept;
            case 6:
                return tape.length;
            case 7:
                return terms.allWeights();
            case 8:
                return Math.min(KEPT, life.told + life.borne);
            case 9:
                return Math.min(KEPT, life.ended);
            default:
                return NONE;
        }
    }

    // ---- what several calls need

    /** Ahead of every act; what was looked at is forgotten here too, since the act may change the terms. */
    private void keepForUndo() {
        past.keep(terms, life);
        costs.look(terms, true);
    }

    private int highestPart(int what) {
        return what >= FREE && what <= TWO ? terms.classes - 1 : CLASS_HIGH[what];
    }

    private static boolean isRule(int what, int v) {
        return what >= 0 && what < RULE_PARTS && v >= RULE_LOW[what] && v <= RULE_HIGH[what];
    }

    private static boolean isThumb(int rule, int v) {
        if (rule == ABOVE_LIMIT) {
            return v >= 0 && v <= MOST_LIMIT;
        }
        return rule >= BY_COST && rule < ABOVE_LIMIT && v == 0;
    }

    private boolean isAsked(int l, int c) {
        return l >= 0 && l <= MOST_YEARS && terms.hasClass(c);
    }

    private boolean isState(int l, int c, int k, int t) {
        return l > 0 && isAsked(l, c) && k >= 0 && k <= terms.chances() && t >= 0 && t < COUNTS;
    }

    private boolean canLive(int n, int rule, int v) {
        return terms.classes > 0 && n >= 1 && n <= MOST_YEARS && isThumb(rule, v);
    }

    private static int entry(int[] rows, int all, int k, int what) {
        if (k < 0 || k >= Math.min(KEPT, all) || what < 0 || what >= ENTRY_PARTS) {
            return NONE;
        }
        return rows[(all - 1 - k) % KEPT * ENTRY_PARTS + what];
    }

    /** At least 1; b is above 0. */
    private static int commonDivisor(int a, int b) {
        int upper = a;
        int lower = b;
        for (int step = 0; step < 64 && lower != 0; step++) {
            int left = upper % lower;
            upper = lower;
            lower = left;
        }
        return Math.max(1, upper);
    }

    private long bareCost(int l, int c) {
        trial.look(terms, false);
        return trial.costOf(l, c);
    }

    private long costByRule(int rule, int v, int l, int c) {
        trial.look(terms, false);
        trial.thumb = rule;
        trial.limit = v;
        return trial.costOf(l, c);
    }

    private long costWere(int what, int v, int l, int c) {
        otherTerms.copy(terms);
        otherTerms.rules[what] = v;
        trial.look(otherTerms, true);
        return trial.costOf(l, c);
    }

    private int joinedClass(int a, int b) {
        return terms.part(b, PREMIUM) > terms.part(a, PREMIUM) ? b : a;
    }

    private long joinedCost(int l, int c, int r) {
        trial.look(terms, false);
        trial.cars = 2;
        trial.hundredths = r;
        return trial.costOf(l, c);
    }

    private int stepFrom(int bits) {
        int then = 0;
        for (int c = 0; c < terms.classes; c++) {
            if ((bits >> c & 1) != 0) {
                for (int t = 0; t < COUNTS; t++) {
                    then |= 1 << terms.next(c, t);
                }
            }
        }
        return then;
    }

    private int waysOf(int x) {
        int chances = terms.chances();
        if (x > chances) {
            return 0;
        }
        int found = 1;
        for (int i = 0; i < x; i++) {
            // exact at each step: it is a binomial number again
            found = found * (chances - i) / (i + 1);
        }
        for (int i = 0; i < chances; i++) {
            found *= i < x ? terms.odds() : DOZEN - terms.odds();
        }
        return found;
    }

    private void spreadOneYear() {
        for (int d = 0; d < MOST_CLASSES; d++) {
            waysThen[d] = 0;
        }
        for (int x = 0; x <= terms.chances(); x++) {
            int found = waysOf(x);
            for (int d = 0; d < terms.classes; d++) {
                waysThen[terms.next(d, x)] += waysNow[d] * found;
            }
        }
        System.arraycopy(waysThen, 0, waysNow, 0, MOST_CLASSES);
    }

    /** A life of nothing but the class as it is, for what does not happen. */
    private Life lifeElsewhere() {
        otherLife.clear();
        otherLife.place = life.place;
        return otherLife;
    }

    private int liveByDraws(Life who, int n, int rule, int v, int seed) {
        int before = who.allPaid();
        draws.seed = seed;
        if (rule == BY_COST) {
            costs.learn(n);
        }
        for (int left = n; left > 0; left--) {
            liveOneYear(who, left, rule, v);
        }
        return who.allPaid() - before;
    }

    private void liveOneYear(Life who, int left, int rule, int v) {
        // buys() also leaves what lies ahead of each chance of this year, which isTold() reads
        boolean guard = rule == BY_COST && costs.buys(left, who.place);
        int chances = terms.chances();
        who.startYear(terms, guard);
        for (int k = 0; k < chances; k++) {
            if (draws.next(DOZEN) < terms.odds()) {
                int s = draws.nextSort(terms);
                who.takeLoss(terms, s, isTold(who, rule, v, s));
            }
            who.passChance(terms);
        }
    }

    private boolean isTold(Life who, int rule, int v, int s) {
        switch (rule) {
            case ALL_TOLD:
                return true;
            case ALL_BORNE:
                return false;
            case ABOVE_LIMIT:
                return terms.sortPart(s, SIZE) > v;
            default:
                return costs.gainOf(who.gone, Math.min(2, who.counted), who.guarded, s) > 0;
        }
    }

    private static String wordOf(int kind) {
        switch (kind) {
            case WORD_CLASS:
                return "class";
            case WORD_LOSS:
                return "loss";
            case WORD_CHANCES:
                return "chances";
            case WORD_CHANCES + ODDS:
                return "odds";
            default:
                return "own";
        }
    }

    // ---- the parts

    /** Classes, sorts and rules: all that a text tells. */
    private static final class Terms {
        int classes;
        int sorts;
        final int[] classParts = new int[MOST_CLASSES * CLASS_PARTS];
        final int[] sortParts = new int[MOST_SORTS * SORT_PARTS];
        final int[] rules = new int[RULE_PARTS];

        Terms() {
            System.arraycopy(RULE_AT_FIRST, 0, rules, 0, RULE_PARTS);
        }

        void clear() {
            classes = 0;
            sorts = 0;
            System.arraycopy(RULE_AT_FIRST, 0, rules, 0, RULE_PARTS);
        }

        void copy(Terms from) {
            classes = from.classes;
            sorts = from.sorts;
            System.arraycopy(from.classParts, 0, classParts, 0, MOST_CLASSES * CLASS_PARTS);
            System.arraycopy(from.sortParts, 0, sortParts, 0, MOST_SORTS * SORT_PARTS);
            System.arraycopy(from.rules, 0, rules, 0, RULE_PARTS);
        }

        boolean hasClass(int c) {
            return c >= 0 && c < classes;
        }

        boolean hasSort(int s) {
            return s >= 0 && s < sorts;
        }

        int part(int c, int what) {
            return classParts[c * CLASS_PARTS + what];
        }

        void setPart(int c, int what, int v) {
            classParts[c * CLASS_PARTS + what] = v;
        }

        /** The class behind a year in which so many losses count. */
        int next(int c, int counted) {
            return classParts[c * CLASS_PARTS + FREE + Math.min(2, counted)];
        }

        int sortPart(int s, int what) {
            return sortParts[s * SORT_PARTS + what];
        }

        void setSortPart(int s, int what, int v) {
            sortParts[s * SORT_PARTS + what] = v;
        }

        void addSort(int size, int weight) {
            setSortPart(sorts, SIZE, size);
            setSortPart(sorts, WEIGHT, weight);
            sorts++;
        }

        void removeSort(int s) {
            for (int above = s + 1; above < sorts; above++) {
                setSortPart(above - 1, SIZE, sortPart(above, SIZE));
                setSortPart(above - 1, WEIGHT, sortPart(above, WEIGHT));
            }
            sorts--;
        }

        int chances() {
            return rules[CHANCES];
        }

        int odds() {
            return rules[ODDS];
        }

        int own() {
            return rules[OWN];
        }

        /** What is paid of a loss that is told. */
        int ownOf(int s) {
            return Math.min(own(), sortPart(s, SIZE));
        }

        int allWeights() {
            int sum = 0;
            for (int s = 0; s < sorts; s++) {
                sum += sortPart(s, WEIGHT);
            }
            return sum;
        }
    }

    /** A life: what has been paid and told; the book and the ledger are rings, counted by losses and by years. */
    private static final class Life {
        int place;
        boolean on;
        int gone;
        int counted;
        boolean guarded;
        int paidInYear;
        int ended;
        int forPremiums;
        int forGuards;
        int forTold;
        int forBorne;
        int told;
        int borne;
        final int[] book = new int[KEPT * ENTRY_PARTS];
        final int[] ledger = new int[KEPT * ENTRY_PARTS];

        void clear() {
            place = 0;
            ended = 0;
            forPremiums = 0;
            forGuards = 0;
            forTold = 0;
            forBorne = 0;
            told = 0;
            borne = 0;
            leaveYear();
        }

        void copy(Life from) {
            place = from.place;
            on = from.on;
            gone = from.gone;
            counted = from.counted;
            guarded = from.guarded;
            paidInYear = from.paidInYear;
            ended = from.ended;
            forPremiums = from.forPremiums;
            forGuards = from.forGuards;
            forTold = from.forTold;
            forBorne = from.forBorne;
            told = from.told;
            borne = from.borne;
            System.arraycopy(from.book, 0, book, 0, KEPT * ENTRY_PARTS);
            System.arraycopy(from.ledger, 0, ledger, 0, KEPT * ENTRY_PARTS);
        }

        int allPaid() {
            return forPremiums + forGuards + forTold + forBorne;
        }

        int startYear(Terms terms, boolean guard) {
            int premium = terms.part(place, PREMIUM);
            int fee = guard ? terms.part(place, FEE) : 0;
            forPremiums += premium;
            forGuards += fee;
            on = true;
            guarded = guard;
            paidInYear = premium + fee;
            return paidInYear;
        }

        /** A chance is gone, whatever came at it; answers how many are left. */
        int passChance(Terms terms) {
            gone++;
            int left = terms.chances() - gone;
            if (left <= 0) {
                endYear(terms);
            }
            return left;
        }

        /** A loss comes at a chance, which is yet to go; answers what is paid. */
        int takeLoss(Terms terms, int s, boolean isTold) {
            putEntry(book, told + borne, ended, s, isTold ? 1 : 0);
            int paid = isTold ? terms.ownOf(s) : terms.sortPart(s, SIZE);
            paidInYear += paid;
            if (isTold) {
                told++;
                forTold += paid;
                countTold();
            } else {
                borne++;
                forBorne += paid;
            }
            return paid;
        }

        private void countTold() {
            if (guarded) {
                guarded = false;
            } else {
                counted++;
            }
        }

        private void endYear(Terms terms) {
            putEntry(ledger, ended, place, paidInYear, counted);
            ended++;
            place = terms.next(place, counted);
            leaveYear();
        }

        private void leaveYear() {
            on = false;
            gone = 0;
            counted = 0;
            guarded = false;
            paidInYear = 0;
        }

        private static void putEntry(int[] rows, int number, int first, int second, int third) {
            // a life that goes on far beyond the calls that are promised makes its numbers wrap around below 0
            int at = Math.floorMod(number, KEPT) * ENTRY_PARTS;
            rows[at] = first;
            rows[at + 1] = second;
            rows[at + 2] = third;
        }
    }

    /** How things were ahead of the latest acts, as a ring. */
    private static final class Past {
        final Terms[] terms = new Terms[ACTS_KEPT];
        final Life[] lives = new Life[ACTS_KEPT];
        int next;
        int kept;

        Past() {
            for (int i = 0; i < ACTS_KEPT; i++) {
                terms[i] = new Terms();
                lives[i] = new Life();
            }
        }

        void keep(Terms nowTerms, Life nowLife) {
            terms[next].copy(nowTerms);
            lives[next].copy(nowLife);
            next = (next + 1) % ACTS_KEPT;
            kept = Math.min(ACTS_KEPT, kept + 1);
        }

        boolean takeBack(Terms nowTerms, Life nowLife) {
            if (kept == 0) {
                return false;
            }
            next = (next + ACTS_KEPT - 1) % ACTS_KEPT;
            kept--;
            nowTerms.copy(terms[next]);
            nowLife.copy(lives[next]);
            return true;
        }

        void forget() {
            kept = 0;
        }
    }

    /** The draws of a life. */
    private static final class Draws {
        int seed;

        int next(int bound) {
            seed = seed * 1103515245 + 12345;
            return bound > 0 ? (seed >>> 8) % bound : 0;
        }

        int nextSort(Terms terms) {
            int left = next(terms.allWeights());
            int last = terms.sorts - 1;
            for (int s = 0; s < last; s++) {
                left -= terms.sortPart(s, WEIGHT);
                if (left < 0) {
                    return s;
                }
            }
            return last;
        }
    }

    /** What a chance may bring, in mills, and what is done about it. */
    private static final class Losses {
        private int sorts;
        private long odds;
        private long allWeights;
        private boolean atWorst;
        private final long[] sizes = new long[MOST_SORTS];
        private final long[] owns = new long[MOST_SORTS];
        private final long[] weights = new long[MOST_SORTS];
        /** BY_COST, ALL_TOLD or ALL_BORNE, for each sort. */
        private final int[] choices = new int[MOST_SORTS];

        void take(Terms terms, int thumb, int limit, boolean worst) {
            sorts = terms.sorts;
            odds = terms.odds();
            allWeights = terms.allWeights();
            atWorst = worst;
            for (int s = 0; s < sorts; s++) {
                int size = terms.sortPart(s, SIZE);
                sizes[s] = (long) MILL * size;
                owns[s] = (long) MILL * terms.ownOf(s);
                weights[s] = terms.sortPart(s, WEIGHT);
                choices[s] = thumb;
                if (thumb == ABOVE_LIMIT) {
                    choices[s] = size > limit ? ALL_TOLD : ALL_BORNE;
                }
            }
        }

        /** By what comes behind it: if no loss is told at it (still), if one is. */
        long chanceCost(long still, long told) {
            long sum = 0;
            long most = odds < DOZEN ? still : 0;
            for (int s = 0; s < sorts; s++) {
                long found = lossCost(s, still, told);
                sum += weights[s] * found;
                most = Math.max(most, found);
            }
            long all = DOZEN * allWeights;
            if (odds == 0 || all <= 0) {
                return still;
            }
            return atWorst ? most : ((DOZEN - odds) * allWeights * still + odds * sum) / all;
        }

        /** What a loss of a sort costs less by its own part. */
        long savedIfTold(int s) {
            return sizes[s] - owns[s];
        }

        private long lossCost(int s, long still, long told) {
            long ifTold = owns[s] + told;
            long ifBorne = sizes[s] + still;
            if (choices[s] == BY_COST) {
                return ifTold < ifBorne ? ifTold : ifBorne;
            }
            return choices[s] == ALL_TOLD ? ifTold : ifBorne;
        }
    }

    /** One ladder looked at from the end, for one car or for two that are joined. */
    private static final class Outlook {
        private Terms terms;
        private boolean withGuards;
        int thumb;
        int limit;
        boolean atWorst;
        int cars;
        int hundredths;
        private int known;
        private int chances;
        private final Losses losses = new Losses();
        /** Cost by years to go and class; those with no years to go stay 0. */
        private final long[] cost = new long[(MOST_YEARS + 1) * MOST_CLASSES];
        /** Cost ahead of each chance of the year last looked at, by chances gone, losses that count, guard. */
        private final long[] ahead = new long[(MOST_CHANCES + 1) * COUNTS * 2];

        Outlook(Terms first) {
            terms = first;
            withGuards = true;
            cars = 1;
        }

        /** Begins anew: best choices, one car, weighed odds; other wishes are put behind this. */
        void look(Terms newTerms, boolean guardsSold) {
            terms = newTerms;
            withGuards = guardsSold;
            thumb = BY_COST;
            limit = 0;
            atWorst = false;
            cars = 1;
            hundredths = 0;
            known = 0;
        }

        /** Learns the costs with up to so many years to go. */
        void learn(int l) {
            if (known == 0) {
                chances = terms.chances() * cars;
                losses.take(terms, thumb, limit, atWorst);
            }
            for (int y = known + 1; y <= l; y++) {
                for (int c = 0; c < terms.classes; c++) {
                    lookAhead(y, c, 0, 0, withGuards);
                    cost[y * MOST_CLASSES + c] = premiumPaid(c) + costBehindPremium(c);
                }
                known = y;
            }
        }

        long costOf(int l, int c) {
            learn(l);
            return cost[l * MOST_CLASSES + c];
        }

        /**
         * Reckons what lies ahead of each chance that can follow upon such a one; the costs with a year less must have
         * been learnt. Each chance adds at most one loss that counts, and none while a guard is there.
         */
        void lookAhead(int l, int c, int firstK, int firstT, boolean guard) {
            for (int t = 0; t < COUNTS; t++) {
                long then = cost[(l - 1) * MOST_CLASSES + terms.next(c, t)];
                ahead[index(chances, t, false)] = then;
                ahead[index(chances, t, true)] = then;
            }
            for (int k = chances - 1; k >= firstK; k--) {
                int lastT = Math.min(2, firstT + k - firstK);
                for (int t = firstT; t <= lastT; t++) {
                    ahead[index(k, t, false)] =
                            losses.chanceCost(ahead[index(k + 1, t, false)], ahead[toldIndex(k, t, false)]);
                }
                if (guard) {
                    ahead[index(k, firstT, true)] =
                            losses.chanceCost(ahead[index(k + 1, firstT, true)], ahead[toldIndex(k, firstT, true)]);
                }
            }
        }

        /** Whether a guard is bought; leaves what lies ahead of each chance of such a year, with it or without. */
        boolean buys(int l, int c) {
            lookAhead(l, c, 0, 0, true);
            return guardPays(c);
        }

        long aheadOf(int k, int t, boolean guard) {
            return ahead[index(k, t, guard)];
        }

        long gainOf(int k, int t, boolean guard, int s) {
            return losses.savedIfTold(s) - dearerIfTold(k, t, guard);
        }

        int leastTold(int k, int t, boolean guard) {
            long dearer = dearerIfTold(k, t, guard);
            if (dearer < 0) {
                return 1;
            }
            long least = terms.own() + dearer / MILL + 1;
            return least > MOST_SIZE ? NOT_ANY : (int) least;
        }

        private long dearerIfTold(int k, int t, boolean guard) {
            return ahead[toldIndex(k, t, guard)] - ahead[index(k + 1, t, guard)];
        }

        private long costBehindPremium(int c) {
            if (withGuards && guardPays(c)) {
                return (long) MILL * terms.part(c, FEE) + ahead[index(0, 0, true)];
            }
            return ahead[index(0, 0, false)];
        }

        private boolean guardPays(int c) {
            return (long) MILL * terms.part(c, FEE) + ahead[index(0, 0, true)] < ahead[index(0, 0, false)];
        }

        private long premiumPaid(int c) {
            long whole = (long) MILL * cars * terms.part(c, PREMIUM);
            return whole - whole * hundredths / 100;
        }

        private static int index(int k, int t, boolean guard) {
            return (k * COUNTS + t) * 2 + (guard ? 1 : 0);
        }

        /** Where one stands behind a loss that is told: a guard lets it go by and is gone. */
        private static int toldIndex(int k, int t, boolean guard) {
            return index(k + 1, guard ? t : Math.min(2, t + 1), false);
        }
    }

    /** Two cars, each in its class, whose losses are told for either. */
    private static final class House {
        private long[] now = new long[MOST_CLASSES * MOST_CLASSES];
        private long[] then = new long[MOST_CLASSES * MOST_CLASSES];
        private final long[] ahead = new long[(MOST_CHANCES + 1) * COUNTS * COUNTS];
        private final Losses losses = new Losses();

        long costOf(Terms terms, int l, int a, int b) {
            losses.take(terms, BY_COST, 0, false);
            for (int i = 0; i < MOST_CLASSES * MOST_CLASSES; i++) {
                now[i] = 0;
            }
            for (int y = 1; y <= l; y++) {
                long[] done = now;
                now = then;
                then = done;
                fillPairs(terms);
            }
            return now[a * MOST_CLASSES + b];
        }

        private void fillPairs(Terms terms) {
            for (int a = 0; a < terms.classes; a++) {
                // a loss of either car can be told for either, so it is alike which car is the first
                for (int b = a; b < terms.classes; b++) {
                    int premiums = terms.part(a, PREMIUM) + terms.part(b, PREMIUM);
                    long found = (long) MILL * premiums + costBehindPremiums(terms, a, b);
                    now[a * MOST_CLASSES + b] = found;
                    now[b * MOST_CLASSES + a] = found;
                }
            }
        }

        private long costBehindPremiums(Terms terms, int a, int b) {
            int chances = 2 * terms.chances();
            for (int t = 0; t < COUNTS; t++) {
                for (int u = 0; u < COUNTS; u++) {
                    ahead[index(chances, t, u)] = then[terms.next(a, t) * MOST_CLASSES + terms.next(b, u)];
                }
            }
            for (int k = chances - 1; k >= 0; k--) {
                for (int t = 0; t <= Math.min(2, k); t++) {
                    for (int u = 0; u <= Math.min(2, k - t); u++) {
                        ahead[index(k, t, u)] = losses.chanceCost(ahead[index(k + 1, t, u)], toldCost(k, t, u));
                    }
                }
            }
            return ahead[index(0, 0, 0)];
        }

        /** A loss is told for the car for which it costs less then. */
        private long toldCost(int k, int t, int u) {
            long forFirst = ahead[index(k + 1, Math.min(2, t + 1), u)];
            long forSecond = ahead[index(k + 1, t, Math.min(2, u + 1))];
            return Math.min(forFirst, forSecond);
        }

        private static int index(int k, int t, int u) {
            return (k * COUNTS + t) * COUNTS + u;
        }
    }

    /** The bytes that were fed, and what they tell. */
    private static final class Tape {
        private final int[] bytes = new int[TAPE_LENGTH];
        private final int[] numbers = new int[CLASS_PARTS];
        final Terms found = new Terms();
        int length;
        private int at;
        private int fault;

        void append(int four) {
            for (int shift = 24; shift >= 0 && length < TAPE_LENGTH; shift -= 8) {
                bytes[length] = four >>> shift & 255;
                length++;
            }
        }

        /** Answers the fault, or NONE; what is told is in found then. */
        int parse() {
            found.clear();
            at = 0;
            fault = NONE;
            skipBlanks();
            // a phrase without a fault takes a byte at least, so there are fewer phrases than bytes
            for (int i = 0; i < TAPE_LENGTH && at < length && fault == NONE; i++) {
                readPhrase();
                skipBlanks();
            }
            if (fault == NONE && !isWhole()) {
                fault = length;
            }
            return fault;
        }

        private void readPhrase() {
            int start = at;
            while (at < length && isLetter(bytes[at])) {
                at++;
            }
            int kind = kindOf(start, at);
            if (kind == NONE || isFull(kind)) {
                fault = start;
                return;
            }
            int amount = amountOf(kind);
            for (int i = 0; i < amount && fault == NONE; i++) {
                readNumber(i, lowest(kind), highest(kind, i));
            }
            if (fault == NONE) {
                readEnd();
            }
            if (fault == NONE) {
                take(kind);
            }
        }

        private void readNumber(int i, int low, int high) {
            int before = at;
            skipBlanks();
            if (at == before || at >= length || !isDigit(bytes[at])) {
                fault = at;
                return;
            }
            int start = at;
            int value = 0;
            while (at < length && isDigit(bytes[at])) {
                // kept small: a number of many digits is refused by its length
                value = Math.min(9999, value * 10 + bytes[at] - '0');
                at++;
            }
            if (at - start > 3 || value < low || value > high) {
                fault = start;
                return;
            }
            numbers[i] = value;
        }

        private void readEnd() {
            skipBlanks();
            if (at < length && bytes[at] == ';') {
                at++;
            } else {
                fault = at;
            }
        }

        private void take(int kind) {
            if (kind == WORD_CLASS) {
                System.arraycopy(numbers, 0, found.classParts, found.classes * CLASS_PARTS, CLASS_PARTS);
                found.classes++;
            } else if (kind == WORD_LOSS) {
                found.addSort(numbers[SIZE], numbers[WEIGHT]);
            } else {
                found.rules[kind - WORD_CHANCES] = numbers[0];
            }
        }

        private boolean isFull(int kind) {
            return kind == WORD_CLASS && found.classes >= MOST_CLASSES
                    || kind == WORD_LOSS && found.sorts >= MOST_SORTS;
        }

        private boolean isWhole() {
            if (found.classes == 0 || found.sorts == 0) {
                return false;
            }
            for (int c = 0; c < found.classes; c++) {
                for (int t = 0; t < COUNTS; t++) {
                    if (!found.hasClass(found.next(c, t))) {
                        return false;
                    }
                }
            }
            return true;
        }

        private int kindOf(int start, int end) {
            for (int kind = 0; kind < WORDS; kind++) {
                if (isWord(wordOf(kind), start, end)) {
                    return kind;
                }
            }
            return NONE;
        }

        private boolean isWord(String word, int start, int end) {
            if (end - start != word.length()) {
                return false;
            }
            for (int i = 0; i < word.length(); i++) {
                if (bytes[start + i] != word.charAt(i)) {
                    return false;
                }
            }
            return true;
        }

        private static int amountOf(int kind) {
            if (kind == WORD_CLASS) {
                return CLASS_PARTS;
            }
            return kind == WORD_LOSS ? SORT_PARTS : 1;
        }

        private static int lowest(int kind) {
            if (kind == WORD_CLASS) {
                return 0;
            }
            return kind == WORD_LOSS ? 1 : RULE_LOW[kind - WORD_CHANCES];
        }

        private static int highest(int kind, int i) {
            if (kind == WORD_CLASS) {
                return CLASS_HIGH[i];
            }
            return kind == WORD_LOSS ? SORT_HIGH[i] : RULE_HIGH[kind - WORD_CHANCES];
        }

        private void skipBlanks() {
            while (at < length && (bytes[at] == ' ' || bytes[at] == '\n')) {
                at++;
            }
        }

        private static boolean isLetter(int sign) {
            return sign >= 'a' && sign <= 'z';
        }

        private static boolean isDigit(int sign) {
            return sign >= '0' && sign <= '9';
        }
    }

    /** A text that is written to be asked for byte by byte. */
    private static final class Page {
        private final int[] bytes = new int[PAGE_LENGTH];
        int length;

        /** A blank stands ahead of all but the first of a phrase. */
        void putWord(String word) {
            putBlank();
            for (int i = 0; i < word.length(); i++) {
                put(word.charAt(i));
            }
        }

        void putNumber(int value) {
            putBlank();
            int unit = 1;
            for (int i = 0; i < 9 && value / unit >= 10; i++) {
                unit *= 10;
            }
            for (int i = 0; i < 10 && unit > 0; i++) {
                put('0' + value / unit % 10);
                unit /= 10;
            }
        }

        void endPhrase() {
            put(';');
        }

        /** The i-th byte; for NONE how many there are. */
        int signAt(int i) {
            if (i < 0) {
                return length;
            }
            return i < length && i < PAGE_LENGTH ? bytes[i] : NOT_ANY;
        }

        private void putBlank() {
            if (length > 0 && bytes[length - 1] != ';') {
                put(' ');
            }
        }

        private void put(int sign) {
            if (length < PAGE_LENGTH) {
                bytes[length] = sign;
                length++;
            }
        }
    }
}
