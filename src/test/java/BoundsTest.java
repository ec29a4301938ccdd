/**
 * Each argument of each call that has bounds: the last values that are allowed, the first that are not, on either side,
 * and that a refused call changes nothing. Bounds that go by how much there is are tried on a small and on a full ladder.
 */
public final class BoundsTest {
    private static final int NONE = BonusLadder.NONE;
    private static final long NO_NUMBER = Long.MIN_VALUE;

    /** Three classes, two sorts, two chances. */
    private static final String SMALL =
            "class 30 1 0 0 4;class 20 2 0 0 3;class 10 2 1 0 2;loss 5 3;loss 40 1;chances 2;odds 3;own 1;";
    /** Eight classes, five sorts, three chances. */
    private static final String FULL = "class 80 1 0 0 9;class 70 2 0 0 9;class 60 3 1 0 9;class 50 4 2 0 9;"
            + "class 40 5 3 1 9;class 30 6 4 2 9;class 20 7 5 3 9;class 10 7 6 4 9;"
            + "loss 5 1;loss 10 2;loss 20 3;loss 40 4;loss 80 5;chances 3;odds 4;own 2;";

    private static final Due due = new Due();

    private BoundsTest() {
    }

    public static void main(String[] args) {
        acts();
        actsOfLife();
        asked();
        for (int full = 0; full <= 1; full++) {
            boolean isFull = full == 1;
            Due.Make make = isFull ? BoundsTest::full : BoundsTest::small;
            int c = isFull ? 7 : 2;
            int s = isFull ? 4 : 1;
            int chances = isFull ? 3 : 2;
            classesAndSorts(make, c, s);
            costs(make, c);
            choices(make, c, s, chances);
            ladder(make, c);
            odds(make, c, isFull ? 5 : 8);
            twoCars(make, c);
            were(make, c, s);
        }
        rules();
        draws();
        texts();
        due.covers(5, 6, 7, 9, 10, 11, 12, 13, 14, 17, 18, 19, 20, 21);
        for (int promise = 23; promise <= 55; promise++) {
            due.covers(promise);
        }
        due.end("BoundsTest");
    }

    private static BonusLadder small() {
        return Due.told(SMALL);
    }

    private static BonusLadder full() {
        return Due.told(FULL);
    }

    private static BonusLadder inYear() {
        BonusLadder x = small();
        x.begin(true);
        return x;
    }

    private static BonusLadder inFullYear() {
        BonusLadder x = full();
        x.begin(false);
        return x;
    }

    /** 20 years with two losses each: both the book and the ledger are full. */
    private static BonusLadder old() {
        BonusLadder x = small();
        x.rule(1, 12);
        x.live(20, 2, 0, 1);
        return x;
    }

    /** Each value that set, sort and rule allow is another one than what there is (30 1 0 0 4, 5 3, 2 3 1) or is tried so. */
    private static void acts() {
        due.within("5: premium", BoundsTest::small, 0, 999, NONE, (x, v) -> x.set(0, 0, v));
        due.within("5: free", () -> with(x -> x.set(0, 1, 1)), 0, 2, NONE, (x, v) -> x.set(0, 1, v));
        due.within("5: one", () -> with(x -> x.set(0, 2, 1)), 0, 2, NONE, (x, v) -> x.set(0, 2, v));
        due.within("5: two", () -> with(x -> x.set(0, 3, 1)), 0, 2, NONE, (x, v) -> x.set(0, 3, v));
        due.within("5: free of eight", BoundsTest::full, 0, 7, NONE, (x, v) -> x.set(4, 1, v));
        due.within("5: one of eight", BoundsTest::full, 0, 7, NONE, (x, v) -> x.set(4, 2, v));
        due.within("5: two of eight", BoundsTest::full, 0, 7, NONE, (x, v) -> x.set(4, 3, v));
        due.within("5: fee", BoundsTest::small, 0, 99, NONE, (x, v) -> x.set(0, 4, v));
        due.within("5: class", BoundsTest::small, 0, 2, NONE, (x, c) -> x.set(c, 0, 7));
        due.within("5: class of eight", BoundsTest::full, 0, 7, NONE, (x, c) -> x.set(c, 0, 7));
        due.within("5: what", BoundsTest::small, 0, 4, NONE, (x, what) -> x.set(1, what, 1));
        due.within("6: size", BoundsTest::small, 1, 999, NONE, (x, v) -> x.sort(0, 0, v));
        due.within("6: weight", BoundsTest::small, 1, 9, NONE, (x, v) -> x.sort(0, 1, v));
        due.within("6: sort", BoundsTest::small, 0, 1, NONE, (x, s) -> x.sort(s, 0, 7));
        due.within("6: sort of five", BoundsTest::full, 0, 4, NONE, (x, s) -> x.sort(s, 0, 7));
        due.within("6: what", BoundsTest::small, 0, 1, NONE, (x, what) -> x.sort(0, what, 4));
        due.within("7: chances", BoundsTest::small, 1, 3, NONE, (x, v) -> x.rule(0, v));
        due.within("7: odds", BoundsTest::small, 0, 12, NONE, (x, v) -> x.rule(1, v));
        due.within("7: own", BoundsTest::small, 0, 99, NONE, (x, v) -> x.rule(2, v));
        due.within("7: what", () -> with(x -> x.rule(0, 1)), 0, 2, NONE, (x, what) -> x.rule(what, 2));
        due.within("7: chances without a text", BonusLadder::new, 1, 3, NONE, (x, v) -> x.rule(0, v));
        due.within("7: odds without a text", BonusLadder::new, 0, 12, NONE, (x, v) -> x.rule(1, v));
        due.within("7: own without a text", () -> bareWith(x -> x.rule(2, 1)), 0, 99, NONE, (x, v) -> x.rule(2, v));
        due.within("12: size", BoundsTest::small, 1, 999, NONE, (x, v) -> x.come(v, 1));
        due.within("12: weight", BoundsTest::small, 1, 9, NONE, (x, v) -> x.come(1, v));
        due.within("13: sort", BoundsTest::small, 0, 1, NONE, BonusLadder::drop);
        due.within("13: sort of five", BoundsTest::full, 0, 4, NONE, BonusLadder::drop);
        due.within("14: class", () -> with(x -> x.move(1)), 0, 2, NONE, BonusLadder::move);
        due.within("14: class of eight", () -> fullWith(x -> x.move(1)), 0, 7, NONE, BonusLadder::move);
    }

    private static BonusLadder with(Due.Call act) {
        BonusLadder x = small();
        act.on(x);
        return x;
    }

    private static BonusLadder fullWith(Due.Call act) {
        BonusLadder x = full();
        act.on(x);
        return x;
    }

    private static BonusLadder bareWith(Due.Call act) {
        BonusLadder x = new BonusLadder();
        act.on(x);
        return x;
    }

    private static void actsOfLife() {
        due.within("10: sort, told", BoundsTest::inYear, 0, 1, NONE, (x, s) -> x.loss(s, true));
        due.within("10: sort, borne", BoundsTest::inYear, 0, 1, NONE, (x, s) -> x.loss(s, false));
        due.within("10: sort of five", BoundsTest::inFullYear, 0, 4, NONE, (x, s) -> x.loss(s, true));
        due.within("11: years", BoundsTest::small, 1, 20, NONE, (x, n) -> x.live(n, 1, 0, 5));
        due.within("11: rule", BoundsTest::small, 0, 3, NONE, (x, rule) -> x.live(1, rule, 0, 5));
        for (int rule = 0; rule <= 2; rule++) {
            int r = rule;
            due.within("11: v of rule " + r, BoundsTest::small, 0, 0, NONE, (x, v) -> x.live(1, r, v, 5));
        }
        due.within("11: v of rule 3", BoundsTest::small, 0, 999, NONE, (x, v) -> x.live(1, 3, v, 5));
        for (int seed : new int[] {Integer.MIN_VALUE, -1, 0, 1, Integer.MAX_VALUE}) {
            due.holds("11: any seed", small().live(1, 1, 0, seed) >= 30);
        }
        BonusLadder x = inYear();
        due.is("9: a chance goes by", x.quiet(), 1);
        due.is("9: the last one", x.quiet(), 0);
        due.is("9: none is left", x.quiet(), NONE);
    }

    private static void asked() {
        due.within("19: what", BoundsTest::small, 0, 12, NONE, BonusLadder::life);
        due.within("19: what, in a year", BoundsTest::inYear, 0, 12, NONE, BonusLadder::life);
        due.within("20: entry", BoundsTest::old, 0, 15, NONE, (x, k) -> x.book(k, 0));
        due.within("20: what", BoundsTest::old, 0, 2, NONE, (x, what) -> x.book(0, what));
        due.within("20: what of the oldest", BoundsTest::old, 0, 2, NONE, (x, what) -> x.book(15, what));
        due.within("20: the only entry", () -> with(x -> x.begin(false) + x.loss(1, true)), 0, 0, NONE,
                (x, k) -> x.book(k, 0));
        due.within("21: entry", BoundsTest::old, 0, 15, NONE, (x, k) -> x.ledger(k, 0));
        due.within("21: what", BoundsTest::old, 0, 2, NONE, (x, what) -> x.ledger(0, what));
        due.within("21: what of the oldest", BoundsTest::old, 0, 2, NONE, (x, what) -> x.ledger(15, what));
        due.within("21: the only entry", () -> with(x -> x.live(1, 1, 0, 1)), 0, 0, NONE, (x, k) -> x.ledger(k, 0));
        due.within("55: what", BoundsTest::small, 0, 9, NONE, BonusLadder::count);
        due.within("55: what, without a text", BonusLadder::new, 0, 9, NONE, BonusLadder::count);
    }

    private static void classesAndSorts(Due.Make make, int c, int s) {
        due.within("17: class", make, 0, c, NONE, (x, v) -> x.of(v, 0));
        due.within("17: what", make, 0, 4, NONE, (x, v) -> x.of(c, v));
        due.within("18: sort", make, 0, s, NONE, (x, v) -> x.ofSort(v, 2));
        due.within("18: what", make, 0, 2, NONE, (x, v) -> x.ofSort(s, v));
    }

    private static void costs(Due.Make make, int c) {
        due.within("23: years", make, 0, 20, NONE, (x, l) -> x.cost(l, 0));
        due.within("23: class", make, 0, c, NONE, (x, v) -> x.cost(2, v));
        due.within("23: class, no years", make, 0, c, NONE, (x, v) -> x.cost(0, v));
        due.within("24: years", make, 0, 20, NONE, (x, l) -> x.guards(l, 0));
        due.within("24: class", make, 0, c, NONE, (x, v) -> x.guards(2, v));
        due.within("24: class, no years", make, 0, c, NONE, (x, v) -> x.guards(0, v));
        due.within("30: years", make, 0, 20, NONE, (x, l) -> x.worst(l, 0));
        due.within("30: class", make, 0, c, NONE, (x, v) -> x.worst(2, v));
        due.within("31: years", make, 0, 20, NONE, (x, l) -> x.bare(l, 0));
        due.within("31: class", make, 0, c, NONE, (x, v) -> x.bare(2, v));
        due.within("32: years", make, 0, 20, NONE, (x, l) -> x.by(3, 10, l, 0));
        due.within("32: class", make, 0, c, NONE, (x, v) -> x.by(1, 0, 2, v));
        due.within("33: years", make, 0, 20, NONE, (x, l) -> x.bestLimit(l, 0));
        due.within("33: class", make, 0, c, NONE, (x, v) -> x.bestLimit(2, v));
        due.within("34: years", make, 0, 20, NO_NUMBER, (x, l) -> x.worth(l, 0, 1));
        due.within("34: class", make, 0, c, NO_NUMBER, (x, v) -> x.worth(2, v, 1));
        due.within("34: other class", make, 0, c, NO_NUMBER, (x, v) -> x.worth(2, 1, v));
        due.within("35: years", make, 0, 20, NONE, BonusLadder::cheapest);
    }

    private static void choices(Due.Make make, int c, int s, int chances) {
        for (int g = 0; g <= 1; g++) {
            boolean guard = g == 1;
            due.within("25: years", make, 1, 20, NONE, (x, l) -> x.ahead(l, 0, 0, 0, guard));
            due.within("25: class", make, 0, c, NONE, (x, v) -> x.ahead(2, v, 0, 0, guard));
            due.within("25: gone", make, 0, chances, NONE, (x, k) -> x.ahead(2, 0, k, 0, guard));
            due.within("25: counted", make, 0, 2, NONE, (x, t) -> x.ahead(2, 0, 1, t, guard));
            due.within("26: years", make, 1, 20, NONE, (x, l) -> x.least(l, 0, 0, 0, guard));
            due.within("26: class", make, 0, c, NONE, (x, v) -> x.least(2, v, 0, 0, guard));
            due.within("26: gone", make, 0, chances - 1, NONE, (x, k) -> x.least(2, 0, k, 0, guard));
            due.within("26: counted", make, 0, 2, NONE, (x, t) -> x.least(2, 0, 1, t, guard));
            due.within("27: years", make, 1, 20, NONE, (x, l) -> x.tells(l, 0, 0, 0, guard));
            due.within("27: class", make, 0, c, NONE, (x, v) -> x.tells(2, v, 0, 0, guard));
            due.within("27: gone", make, 0, chances - 1, NONE, (x, k) -> x.tells(2, 0, k, 0, guard));
            due.within("27: counted", make, 0, 2, NONE, (x, t) -> x.tells(2, 0, 1, t, guard));
            due.within("28: years", make, 1, 20, NO_NUMBER, (x, l) -> x.gain(l, 0, 0, 0, guard, 0));
            due.within("28: class", make, 0, c, NO_NUMBER, (x, v) -> x.gain(2, v, 0, 0, guard, 0));
            due.within("28: gone", make, 0, chances - 1, NO_NUMBER, (x, k) -> x.gain(2, 0, k, 0, guard, 0));
            due.within("28: counted", make, 0, 2, NO_NUMBER, (x, t) -> x.gain(2, 0, 1, t, guard, 0));
            due.within("28: sort", make, 0, s, NO_NUMBER, (x, v) -> x.gain(2, 0, 0, 0, guard, v));
        }
        due.within("29: class", make, 0, c, NONE, (x, v) -> x.patience(v, 0));
        due.within("29: sort", make, 0, s, NONE, (x, v) -> x.patience(0, v));
        Due.Make year = chances == 2 ? BoundsTest::inYear : BoundsTest::inFullYear;
        due.within("44: years", year, 1, 20, NONE, (x, l) -> x.advice(l, 0));
        due.within("44: sort", year, 0, s, NONE, (x, v) -> x.advice(2, v));
    }

    private static void ladder(Due.Make make, int c) {
        due.within("36: class", make, 0, c, NONE, BonusLadder::reach);
        due.within("37: class", make, 0, c, NONE, (x, v) -> x.years(v, 1));
        due.within("37: other class", make, 0, c, NONE, (x, v) -> x.years(1, v));
        due.within("45: class", make, 0, c, NONE, BonusLadder::rest);
    }

    private static void odds(Due.Make make, int c, int mostYears) {
        due.within("38: losses", make, 0, 3, NONE, BonusLadder::ways);
        due.within("39: class", make, 0, c, NONE, (x, v) -> x.moves(v, 1));
        due.within("39: other class", make, 0, c, NONE, (x, v) -> x.moves(1, v));
        due.within("40: years", make, 0, mostYears, NONE, (x, n) -> x.spread(n, 0, 0));
        due.within("40: class", make, 0, c, NONE, (x, v) -> x.spread(1, v, 1));
        due.within("40: other class", make, 0, c, NONE, (x, v) -> x.spread(1, 1, v));
        due.within("40: class, no years", make, 0, c, NONE, (x, v) -> x.spread(0, v, 1));
        due.within("40: other class, no years", make, 0, c, NONE, (x, v) -> x.spread(0, 1, v));
    }

    private static void twoCars(Due.Make make, int c) {
        due.within("41: years", make, 0, 20, NONE, (x, l) -> x.shared(l, 0, 1));
        due.within("41: first class", make, 0, c, NONE, (x, v) -> x.shared(2, v, 1));
        due.within("41: second class", make, 0, c, NONE, (x, v) -> x.shared(2, 1, v));
        due.within("42: years", make, 0, 20, NONE, (x, l) -> x.joined(l, 0, 1, 5));
        due.within("42: first class", make, 0, c, NONE, (x, v) -> x.joined(2, v, 1, 5));
        due.within("42: second class", make, 0, c, NONE, (x, v) -> x.joined(2, 1, v, 5));
        due.within("42: hundredths", make, 0, 50, NONE, (x, r) -> x.joined(2, 0, 1, r));
        due.within("43: years", make, 0, 20, NONE, (x, l) -> x.rebate(l, 0, 1));
        due.within("43: first class", make, 0, c, NONE, (x, v) -> x.rebate(2, v, 1));
        due.within("43: second class", make, 0, c, NONE, (x, v) -> x.rebate(2, 1, v));
    }

    private static void were(Due.Make make, int c, int s) {
        due.within("46: what", make, 0, 2, NONE, (x, what) -> x.were(what, 1, 2, 0));
        due.within("46: chances", make, 1, 3, NONE, (x, v) -> x.were(0, v, 2, 0));
        due.within("46: odds", make, 0, 12, NONE, (x, v) -> x.were(1, v, 2, 0));
        due.within("46: own", make, 0, 99, NONE, (x, v) -> x.were(2, v, 2, 0));
        due.within("46: years", make, 0, 20, NONE, (x, l) -> x.were(1, 5, l, 0));
        due.within("46: class", make, 0, c, NONE, (x, v) -> x.were(1, 5, 2, v));
        due.within("47: sort", make, 0, s, NONE, (x, v) -> x.lacking(v, 2, 0));
        due.within("47: years", make, 0, 20, NONE, (x, l) -> x.lacking(0, l, 0));
        due.within("47: class", make, 0, c, NONE, (x, v) -> x.lacking(0, 2, v));
        due.within("48: years", make, 0, 20, NONE, (x, l) -> x.oddsFor(5000, l, 0));
        due.within("48: class", make, 0, c, NONE, (x, v) -> x.oddsFor(5000, 2, v));
        due.within("49: price", make, 0, 9999, NONE, (x, p) -> x.bestOwn(p, 2, 0));
        due.within("49: years", make, 0, 20, NONE, (x, l) -> x.bestOwn(50, l, 0));
        due.within("49: class", make, 0, c, NONE, (x, v) -> x.bestOwn(50, 2, v));
        due.within("52: years", make, 1, 20, NONE, (x, l) -> x.dearest(l, 0));
        due.within("52: class", make, 0, c, NONE, (x, v) -> x.dearest(2, v));
    }

    private static void rules() {
        due.within("32: rule", BoundsTest::small, 0, 3, NONE, (x, rule) -> x.by(rule, 0, 2, 0));
        for (int rule = 0; rule <= 2; rule++) {
            int r = rule;
            due.within("32: v of rule " + r, BoundsTest::small, 0, 0, NONE, (x, v) -> x.by(r, v, 2, 0));
            due.within("50: v of rule " + r, BoundsTest::small, 0, 0, NONE, (x, v) -> x.would(2, r, v, 5, 0));
        }
        due.within("32: v of rule 3", BoundsTest::small, 0, 999, NONE, (x, v) -> x.by(3, v, 2, 0));
        due.within("50: v of rule 3", BoundsTest::small, 0, 999, NONE, (x, v) -> x.would(2, 3, v, 5, 0));
    }

    private static void draws() {
        Due.Make[] makes = {BoundsTest::small, BoundsTest::inYear};
        for (Due.Make make : makes) {
            due.within("50: years", make, 1, 20, NONE, (x, n) -> x.would(n, 1, 0, 5, 0));
            due.within("50: rule", make, 0, 3, NONE, (x, rule) -> x.would(2, rule, 0, 5, 0));
            due.within("50: what", make, 0, 3, NONE, (x, what) -> x.would(2, 0, 0, 5, what));
            due.within("51: years", make, 1, 20, NONE, (x, n) -> x.bestRule(n, 5));
        }
    }

    private static void texts() {
        for (int l : new int[] {1, 20}) {
            int length = small().report(l, NONE);
            due.within("54: place", BoundsTest::small, -1, length - 1, -2, (x, i) -> i < -1 ? -2 : x.report(l, i));
            due.is("54: below NONE", small().report(l, -2), NONE);
            due.is("54: far below NONE", small().report(l, Integer.MIN_VALUE), NONE);
        }
        due.within("54: years", BoundsTest::small, 1, 20, NONE, (x, l) -> x.report(l, 0));
        due.within("54: years, how many bytes", BoundsTest::small, 1, 20, NONE, (x, l) -> x.report(l, NONE));
        for (Due.Make make : new Due.Make[] {BonusLadder::new, BoundsTest::small, BoundsTest::full}) {
            int length = make.make().spell(NONE);
            due.within("53: place", make, -1, length - 1, -2, (x, i) -> i < -1 ? -2 : x.spell(i));
            due.is("53: below NONE", make.make().spell(-2), NONE);
            due.is("53: far below NONE", make.make().spell(Integer.MIN_VALUE), NONE);
        }
    }
}
