/** The edges of the acts and of the life (promises 5 to 16, 19 to 22, 44, 50, 51), each sentence by itself. */
public final class LifeEdgeTest {
    private static final int NONE = BonusLadder.NONE;

    /** Premiums tell where one is; three chances. */
    private static final String STEPS =
            "class 30 1 2 3 4;class 20 2 0 0 3;class 10 2 1 0 2;class 90 3 3 3 1;loss 5 3;loss 40 1;chances 3;odds 3;own 7;";
    /** One loss each year, which costs its sort's number and 1. */
    private static final String BY_SORT =
            "class 0 0 0 0 0;loss 1 1;loss 2 2;loss 3 3;loss 4 4;loss 5 5;chances 1;odds 12;own 0;";
    /** One chance a year; a loss costs 1. */
    private static final String BY_ODDS = "class 0 0 0 0 0;loss 1 1;chances 1;odds 0;own 0;";
    /** To tell is to pay 1 a year for ever; a loss of 1 comes each year. */
    private static final String PATIENT = "class 0 0 1 1 99;class 1 1 1 1 99;loss 1 1;chances 1;odds 12;own 0;";

    /** Seeds whose first draw, modulo 12, is 0 to 11: behind the first row x is below 0, behind the second it is not. */
    private static final int[][] FIRST_DRAW = {{15, 7, 34, 18, 10, 2, 11, 3, 30, 22, 6, 31},
        {0, 17, 1, 36, 20, 4, 29, 13, 5, 32, 24, 8}};
    /** Seeds whose second draw, modulo 15, is 0 to 14: behind the first row x is below 0, behind the second it is not. */
    private static final int[][] SECOND_DRAW = {
        {-1964, -1965, -1969, -1972, -1973, -1977, -1981, -1982, -1986, -1989, -1990, -1994, -1997, -1998, -1960},
        {-1963, -1967, -1970, -1974, -1975, -1979, -1980, -1984, -1987, -1991, -1992, -1996, -1999, -2000, -1962}};

    private static final Due due = new Due();

    private LifeEdgeTest() {
    }

    public static void main(String[] args) {
        changes();
        itIsSo();
        whileYearIsOn();
        years();
        losses();
        ownParts();
        guards();
        sums();
        sorts();
        moves();
        anew();
        undone();
        refusedIsNoAct();
        book();
        ledger();
        mean();
        drawsByOdds();
        drawsBySorts();
        drawsByRules();
        drawsFromHere();
        wouldFromHere();
        advice();
        due.covers(5, 6, 7, 8, 9, 10, 11, 12, 13, 14, 15, 16, 19, 20, 21, 22, 44, 50, 51);
        due.end("LifeEdgeTest");
    }

    private static BonusLadder steps() {
        return Due.told(STEPS);
    }

    private static BonusLadder inYear() {
        BonusLadder x = steps();
        x.begin(false);
        return x;
    }

    private static BonusLadder guarded() {
        BonusLadder x = steps();
        x.begin(true);
        return x;
    }

    // ---- 5, 6, 7

    private static void changes() {
        int[] parts = {30, 1, 2, 3, 4};
        int[] others = {999, 0, 1, 2, 99};
        for (int what = 0; what < 5; what++) {
            int w = what;
            due.acts("5: which it was, " + what, LifeEdgeTest::steps, x -> x.set(0, w, others[w]), parts[what]);
            BonusLadder x = steps();
            x.set(0, what, others[what]);
            for (int other = 0; other < 5; other++) {
                due.is("5: no other part changes", x.of(0, other), other == what ? others[what] : parts[other]);
            }
            due.is("5: no other class changes", x.of(1, 0) * 10000 + x.of(1, 1) * 1000 + x.of(1, 4), 202003);
        }
        due.acts("6: size", LifeEdgeTest::steps, x -> x.sort(1, 0, 999), 40);
        due.acts("6: weight", LifeEdgeTest::steps, x -> x.sort(1, 1, 9), 1);
        due.acts("7: chances", LifeEdgeTest::steps, x -> x.rule(0, 1), 3);
        due.acts("7: odds", LifeEdgeTest::steps, x -> x.rule(1, 12), 3);
        due.acts("7: own", LifeEdgeTest::steps, x -> x.rule(2, 99), 7);
        BonusLadder x = steps();
        x.sort(1, 1, 9);
        due.is("6: size and other sort stay", x.ofSort(1, 0) * 100 + x.ofSort(0, 1), 4003);
        due.is("6: all weights", x.count(7), 12);
    }

    private static void itIsSo() {
        int[] parts = {30, 1, 2, 3, 4};
        for (int what = 0; what < 5; what++) {
            int w = what;
            due.keeps("5: it is so", LifeEdgeTest::steps, x -> x.set(0, w, parts[w]), NONE);
        }
        due.keeps("6: the size is so", LifeEdgeTest::steps, x -> x.sort(0, 0, 5), NONE);
        due.keeps("6: the weight is so", LifeEdgeTest::steps, x -> x.sort(0, 1, 3), NONE);
        int[] rules = {3, 3, 7};
        for (int what = 0; what < 3; what++) {
            int w = what;
            due.keeps("7: it is so", LifeEdgeTest::steps, x -> x.rule(w, rules[w]), NONE);
        }
        due.keeps("7: chances as at first", BonusLadder::new, x -> x.rule(0, 2), NONE);
        due.keeps("7: odds as at first", BonusLadder::new, x -> x.rule(1, 3), NONE);
        due.keeps("7: own as at first", BonusLadder::new, x -> x.rule(2, 0), NONE);
    }

    private static void whileYearIsOn() {
        due.keeps("7: chances, a year is on", LifeEdgeTest::inYear, x -> x.rule(0, 2), NONE);
        due.acts("7: odds, a year is on", LifeEdgeTest::inYear, x -> x.rule(1, 2), 3);
        due.acts("7: own, a year is on", LifeEdgeTest::inYear, x -> x.rule(2, 2), 7);
        due.acts("5: premium, a year is on", LifeEdgeTest::inYear, x -> x.set(0, 0, 31), 30);
        due.acts("6: size, a year is on", LifeEdgeTest::inYear, x -> x.sort(0, 0, 6), 5);
        due.acts("12: a sort comes, a year is on", LifeEdgeTest::inYear, x -> x.come(6, 6), 2);
        due.acts("13: a sort goes, a year is on", LifeEdgeTest::inYear, x -> x.drop(1), 1);
        BonusLadder x = inYear();
        x.quiet();
        x.quiet();
        due.is("7: chances, one is left", x.rule(0, 2), NONE);
        x.quiet();
        due.is("7: chances behind the year", x.rule(0, 2), 3);
        due.is("7: the next year has so many", x.begin(false) + x.quiet(), 20 + 1);
    }

    // ---- 8, 9, 10

    private static void years() {
        due.acts("8: without a guard", LifeEdgeTest::steps, x -> x.begin(false), 30);
        due.acts("8: with a guard", LifeEdgeTest::steps, x -> x.begin(true), 34);
        due.keeps("8: one is on", LifeEdgeTest::inYear, x -> x.begin(false), NONE);
        due.keeps("8: one is on, with a guard", LifeEdgeTest::guarded, x -> x.begin(true), NONE);
        due.keeps("9: no year is on", LifeEdgeTest::steps, BonusLadder::quiet, NONE);
        due.keeps("10: no year is on", LifeEdgeTest::steps, x -> x.loss(0, true), NONE);
        due.acts("9: quiet", LifeEdgeTest::inYear, BonusLadder::quiet, 2);
        for (int chances = 1; chances <= 3; chances++) {
            BonusLadder x = steps();
            x.rule(0, chances);
            x.begin(false);
            for (int left = chances - 1; left >= 0; left--) {
                due.is("9: a year is on", x.life(1) * 10 + x.life(2), 10 + chances - 1 - left);
                due.is("9: how many are left", x.quiet(), left);
            }
            due.is("9: the year ends", x.life(1) * 100 + x.life(2) * 10 + x.life(5), 1);
            due.is("9: free", x.life(0), 1);
            due.is("9: no year is on then", x.quiet(), NONE);
            due.is("8: the next one begins", x.begin(false), 20);
            due.is("8: behind one year", x.life(1) * 100 + x.life(2) * 10 + x.life(5), 101);
        }
        BonusLadder free = Due.told("class 0 0 0 0 0;loss 1 1;chances 1;");
        due.is("8: nothing is paid", free.begin(true), 0);
        due.is("8: but a year is on", free.life(1) * 10 + free.life(4), 11);
        due.is("9: it ends", free.quiet(), 0);
        due.is("19: no guard then", free.life(4), 0);
    }

    private static void losses() {
        due.acts("10: told", LifeEdgeTest::inYear, x -> x.loss(1, true), 7);
        due.acts("10: borne", LifeEdgeTest::inYear, x -> x.loss(1, false), 40);
        // none, one, two, three told of three: the class then is FREE, ONE, TWO, TWO of class 0
        int[] then = {1, 2, 3, 3};
        for (int told = 0; told <= 3; told++) {
            BonusLadder x = inYear();
            for (int k = 0; k < 3; k++) {
                x.loss(1, k < told);
                if (k < 2) {
                    due.is("10: losses that count", x.life(3), Math.min(k + 1, told));
                    due.is("10: chances gone", x.life(2), k + 1);
                }
            }
            due.is("10: the year ends with its last chance", x.life(1), 0);
            due.is("10: the class behind " + told, x.life(0), then[told]);
            due.is("19: told", x.life(10), told);
            due.is("19: borne", x.life(11), 3 - told);
            due.is("19: none counts any more", x.life(3), 0);
            due.is("21: losses that counted", x.ledger(0, 2), told);
            due.is("21: what was paid", x.ledger(0, 1), 30 + 7 * told + 40 * (3 - told));
        }
        BonusLadder last = inYear();
        last.quiet();
        last.quiet();
        due.is("10: at the last chance", last.loss(0, false), 5);
        due.is("10: the year ended", last.life(1) * 10 + last.life(5), 1);
        due.is("10: none is on", last.loss(0, false), NONE);
    }

    /** OWN is paid, SIZE if that is less. */
    private static void ownParts() {
        int[][] cases = {{4, 4}, {5, 5}, {6, 5}, {99, 5}, {0, 0}};
        for (int[] c : cases) {
            BonusLadder x = inYear();
            x.rule(2, c[0]);
            due.is("10: own " + c[0] + ", size 5", x.loss(0, true), c[1]);
            due.is("19: of losses told", x.life(8), c[1]);
            due.is("10: it counts", x.life(3), 1);
            due.is("10: borne the size is paid", x.loss(0, false), 5);
            due.is("19: of losses borne", x.life(9), 5);
        }
    }

    private static void guards() {
        // the guard lets the first told go by: FREE, FREE, ONE, TWO
        int[] then = {1, 1, 2, 3};
        for (int told = 0; told <= 3; told++) {
            BonusLadder x = guarded();
            due.is("19: the guard is there", x.life(4), 1);
            for (int k = 0; k < 3; k++) {
                x.loss(0, k >= 3 - told);
                if (k < 2) {
                    due.is("19: is it there yet", x.life(4), k < 3 - told ? 1 : 0);
                    due.is("19: what counts", x.life(3), Math.max(0, k - (3 - told)));
                }
            }
            due.is("10: the class behind " + told, x.life(0), then[told]);
            due.is("21: what counted", x.ledger(0, 2), Math.max(0, told - 1));
            due.is("19: it is gone with the year", x.life(4), 0);
            due.is("19: paid for guards", x.life(7), 4);
            due.is("19: losses told", x.life(10), told);
        }
        due.is("19: no guard", inYear().life(4), 0);
    }

    /** What life() tells: each of its sums by itself. */
    private static void sums() {
        BonusLadder x = steps();
        x.begin(true);
        x.loss(1, true);
        x.loss(1, false);
        long[] on = {0, 1, 2, 0, 0, 0, 30, 4, 7, 40, 1, 1, 81};
        for (int what = 0; what <= 12; what++) {
            due.is("19: in a year, " + what, x.life(what), on[what]);
        }
        x.loss(0, true);
        x.begin(false);
        long[] next = {2, 1, 0, 0, 0, 1, 40, 4, 12, 40, 2, 1, 96};
        for (int what = 0; what <= 12; what++) {
            due.is("19: in the next one, " + what, x.life(what), next[what]);
        }
    }

    // ---- 12, 13, 14, 15

    private static void sorts() {
        due.acts("12: a sort comes", LifeEdgeTest::steps, x -> x.come(1, 9), 2);
        BonusLadder x = steps();
        due.is("12: the third", x.come(999, 1), 2);
        due.is("12: the fourth", x.come(1, 1), 3);
        due.is("12: the fifth", x.come(2, 2), 4);
        due.keeps("12: there are five", LifeEdgeTest::five, y -> y.come(1, 1), NONE);
        due.keeps("12: no classes", BonusLadder::new, y -> y.come(1, 1), NONE);
        due.acts("13: the first of five", LifeEdgeTest::five, y -> y.drop(0), 4);
        due.acts("13: the last of five", LifeEdgeTest::five, y -> y.drop(4), 4);
        for (int gone = 0; gone < 5; gone++) {
            BonusLadder y = five();
            y.drop(gone);
            for (int s = 0; s < 4; s++) {
                due.is("13: numbers above are one less", y.ofSort(s, 0), (s < gone ? s : s + 1) + 1);
                due.is("13: weights too", y.ofSort(s, 1), (s < gone ? s : s + 1) + 1);
            }
            due.is("13: none behind", y.ofSort(4, 0), NONE);
            due.is("13: all weights", y.count(7), 15 - gone - 1);
            due.is("12: there is room for one again", y.come(7, 7), 4);
        }
        due.keeps("13: the only one", () -> Due.told(BY_ODDS), y -> y.drop(0), NONE);
        due.keeps("13: none such of one", () -> Due.told(BY_ODDS), y -> y.drop(1), NONE);
        due.keeps("13: none at all", BonusLadder::new, y -> y.drop(0), NONE);
        BonusLadder told = Due.told(BY_SORT);
        told.begin(false);
        told.loss(4, true);
        told.drop(0);
        due.is("13: the book stays as it is", told.book(0, 1), 4);
        told.drop(3);
        due.is("13: though the sort is gone", told.book(0, 1), 4);
        BonusLadder bottom = Due.told(BY_SORT);
        for (int left = 4; left >= 1; left--) {
            due.is("13: how many are left", bottom.drop(left % 2), left);
        }
        due.is("13: down to the only one", bottom.drop(0), NONE);
    }

    private static BonusLadder five() {
        return Due.told(BY_SORT);
    }

    private static void moves() {
        due.acts("14: to another class", LifeEdgeTest::steps, x -> x.move(3), 0);
        due.keeps("14: it is so", LifeEdgeTest::steps, x -> x.move(0), NONE);
        due.keeps("14: a year is on", LifeEdgeTest::inYear, x -> x.move(1), NONE);
        due.keeps("14: a year is on, it is so", LifeEdgeTest::inYear, x -> x.move(0), NONE);
        BonusLadder x = steps();
        x.move(3);
        due.is("14: which it was", x.move(2), 3);
        due.is("14: where it is", x.life(0), 2);
        due.is("14: nothing is paid", x.life(12) + x.life(5), 0);
        due.is("14: its premium", x.begin(false), 10);
    }

    private static void anew() {
        due.acts("15: nothing was", LifeEdgeTest::steps, BonusLadder::anew, 0);
        due.acts("15: a year is on", LifeEdgeTest::inYear, BonusLadder::anew, 0);
        Due.Make lived = () -> {
            BonusLadder x = steps();
            x.live(20, 1, 0, 3);
            x.begin(true);
            x.loss(1, true);
            return x;
        };
        due.acts("15: 20 years", lived, BonusLadder::anew, 20);
        BonusLadder x = lived.make();
        x.anew();
        BonusLadder first = steps();
        due.is("15: as at first", Due.happened(x), Due.happened(first));
        BonusLadder changed = steps();
        changed.set(0, 0, 77);
        changed.move(2);
        changed.anew();
        due.is("15: classes stay as they are", changed.of(0, 0), 77);
        due.is("15: class 0", changed.life(0), 0);
    }

    // ---- 16

    private static void undone() {
        due.keeps("16: none can", LifeEdgeTest::steps, BonusLadder::undo, NONE);
        BonusLadder x = steps();
        for (int n = 1; n <= 12; n++) {
            x.set(0, 0, 100 + n);
            due.is("16: acts that can be undone", x.count(5), n);
        }
        x.set(0, 0, 113);
        due.is("16: twelve at most", x.count(5), 12);
        for (int n = 12; n >= 1; n--) {
            due.is("16: how many more", x.undo(), n - 1);
            due.is("16: what it was", x.of(0, 0), 100 + n);
        }
        due.keeps("16: the thirteenth can't", LifeEdgeTest::thirteen, y -> {
            for (int n = 0; n < 12; n++) {
                y.undo();
            }
            long answer = y.undo();
            for (int n = 2; n <= 13; n++) {
                y.set(0, 0, 100 + n);
            }
            return answer;
        }, NONE);
        x.undo();
        due.is("16: none can, and nothing happens", x.of(0, 0), 101);
        x.set(0, 0, 500);
        due.is("16: an act behind undone ones", x.count(5), 1);
        due.is("16: it is undone", x.undo(), 0);
        due.is("16: as it was", x.of(0, 0), 101);
        // by turns past the ring's end
        for (int n = 0; n < 30; n++) {
            x.set(0, 0, 200 + n);
            x.set(1, 0, 300 + n);
            x.undo();
        }
        due.is("16: all but the last one", x.count(5), 11);
        due.is("16: the last one but one", x.undo() * 1000 + x.of(0, 0), 10228);
        lifeUndone();
    }

    private static BonusLadder thirteen() {
        BonusLadder x = steps();
        for (int n = 1; n <= 13; n++) {
            x.set(0, 0, 100 + n);
        }
        return x;
    }

    /** Behind twelve acts a refused call, or one that asks, takes none of them away. */
    private static void refusedIsNoAct() {
        Due.Call[] refused = {x -> x.set(4, 0, 1), x -> x.set(0, 5, 1), x -> x.set(0, 0, 1000), x -> x.set(0, 1, 4),
            x -> x.set(0, 0, 112), x -> x.sort(2, 0, 1), x -> x.sort(0, 2, 1), x -> x.sort(0, 1, 10), x -> x.sort(0, 0, 5),
            x -> x.rule(3, 1), x -> x.rule(1, 13), x -> x.rule(2, 7), x -> x.quiet(), x -> x.loss(0, true),
            x -> x.live(0, 0, 0, 1), x -> x.live(21, 0, 0, 1), x -> x.live(1, 4, 0, 1), x -> x.live(1, 1, 1, 1),
            x -> x.come(0, 1), x -> x.come(1, 10), x -> x.drop(2), x -> x.drop(-1), x -> x.move(4), x -> x.move(0),
            x -> x.of(4, 0), x -> x.back(1)};
        for (int i = 0; i < refused.length; i++) {
            BonusLadder x = thirteen();
            x.undo();
            x.set(1, 0, 99);
            due.is("16: refused call " + i, refused[i].on(x), NONE);
            undoTwelve("16: behind refused call " + i, x);
        }
        Due.Call[] asking = {x -> x.cost(20, 0), x -> x.worst(3, 0), x -> x.were(0, 1, 3, 0), x -> x.lacking(0, 3, 0),
            x -> x.would(20, 0, 0, 1, 0), x -> x.bestRule(20, 1), x -> x.dearest(5, 0), x -> x.bestOwn(9, 5, 0),
            x -> x.shared(5, 0, 1), x -> x.spell(0), x -> x.report(5, 0), x -> x.feed(1, 2, 3, 4, 5), x -> x.text()};
        for (int i = 0; i < asking.length; i++) {
            BonusLadder x = thirteen();
            x.undo();
            x.set(1, 0, 99);
            asking[i].on(x);
            undoTwelve("16: behind asking call " + i, x);
        }
        BonusLadder year = thirteen();
        year.begin(true);
        due.is("16: a year is on", year.begin(false), NONE);
        due.is("16: nor chances", year.rule(0, 1), NONE);
        due.is("16: nor a move", year.move(1), NONE);
        due.is("16: nor a life by draws", year.live(1, 1, 0, 1), NONE);
        due.is("16: nor an unknown sort", year.loss(2, false), NONE);
        due.is("16: the year can be undone", year.undo() * 10 + year.life(1), 110);
    }

    /** From thirteen acts, the last of them undone and another one behind. */
    private static void undoTwelve(String what, BonusLadder x) {
        due.is(what, x.undo() * 1000 + x.of(1, 0), 11020);
        for (int n = 12; n >= 2; n--) {
            due.is(what, x.of(0, 0), 100 + n);
            due.is(what, x.undo(), n - 2);
        }
        due.is(what, x.undo() * 1000 + x.of(0, 0), -1000 + 101);
    }

    private static void lifeUndone() {
        Due.Make onTheBrink = () -> {
            BonusLadder x = guarded();
            x.loss(1, true);
            x.loss(1, true);
            return x;
        };
        due.acts("16: a year's end, told", onTheBrink, x -> x.loss(1, true), 7);
        due.acts("16: a year's end, borne", onTheBrink, x -> x.loss(1, false), 40);
        due.acts("16: a year's end, quiet", onTheBrink, BonusLadder::quiet, 0);
        Due.Make full = () -> {
            BonusLadder x = Due.told(BY_SORT);
            x.live(20, 2, 0, 77);
            return x;
        };
        due.acts("16: the oldest of the book and the ledger come back", full, x -> x.live(1, 1, 0, 1), 0);
        due.acts("16: all of them", full, x -> x.live(20, 1, 0, 1), 0);
        BonusLadder x = onTheBrink.make();
        due.is("16: the loss", x.undo(), 2);
        due.is("16: what counts again", x.life(3) * 10 + x.life(4), 0);
        due.is("16: the loss ahead of it", x.undo(), 1);
        due.is("16: the guard is there again", x.life(3) * 10 + x.life(4), 1);
        due.is("16: the year", x.undo(), 0);
        due.is("16: none is on", x.life(1), 0);
        due.is("16: nothing is paid", x.life(12), 0);
        BonusLadder paid = inYear();
        paid.loss(1, false);
        paid.undo();
        paid.quiet();
        paid.loss(0, false);
        paid.undo();
        paid.quiet();
        paid.quiet();
        due.is("16: what was paid in the year is as it was", paid.ledger(0, 1), 30);
        due.is("16: the year's end", paid.undo(), 3);
        paid.loss(0, false);
        due.is("16: what is paid then", paid.ledger(0, 1), 35);
        BonusLadder costs = steps();
        long before = costs.cost(9, 0);
        costs.rule(1, 9);
        due.holds("16: another cost", costs.cost(9, 0) != before);
        costs.undo();
        due.is("16: costs as they were", costs.cost(9, 0), before);
    }

    // ---- 20, 21, 22

    private static void book() {
        BonusLadder x = Due.told(BY_SORT + "chances 3;");
        int all = 0;
        for (int n = 0; n < 20; n++) {
            if (all % 3 == 0) {
                x.begin(false);
            }
            x.loss(n % 5, n % 2 == 0);
            all++;
            due.is("20: entries", x.count(8), Math.min(16, all));
            due.is("20: the latest", x.book(0, 0) * 100 + x.book(0, 1) * 10 + x.book(0, 2),
                    n / 3 * 100 + n % 5 * 10 + 1 - n % 2);
            int oldest = Math.max(0, all - 16);
            due.is("20: the oldest", x.book(all - 1 - oldest, 0) * 100 + x.book(all - 1 - oldest, 1) * 10
                    + x.book(all - 1 - oldest, 2), oldest / 3 * 100 + oldest % 5 * 10 + 1 - oldest % 2);
            due.is("20: none behind it", x.book(Math.min(16, all), 1), NONE);
        }
        due.is("20: all were told or borne", x.life(10) * 100 + x.life(11), 1010);
        BonusLadder quiet = inYear();
        quiet.quiet();
        due.is("20: what is quiet is no entry", quiet.count(8), 0);
    }

    private static void ledger() {
        BonusLadder x = Due.told("class 0 1 1 1 1;class 1 2 0 0 1;class 2 0 0 0 1;loss 1 1;chances 1;odds 3;own 0;");
        for (int n = 1; n <= 20; n++) {
            int place = x.life(0);
            x.begin(n % 4 == 0);
            due.is("21: a year that is on is no entry", x.count(9), Math.min(16, n - 1));
            x.loss(0, n % 2 == 0);
            due.is("21: entries", x.count(9), Math.min(16, n));
            due.is("21: the class in it", x.ledger(0, 0), place);
            due.is("21: what was paid in it", x.ledger(0, 1), place + (n % 4 == 0 ? 1 : 0) + n % 2);
            due.is("21: losses that counted", x.ledger(0, 2), n % 4 == 2 ? 1 : 0);
            due.is("21: none behind the oldest", x.ledger(Math.min(16, n), 0), NONE);
        }
        due.is("21: the oldest is the fifth", x.ledger(15, 1), x.ledger(15, 0) + 1);
        due.is("19: years that ended", x.life(5), 20);
    }

    private static void mean() {
        due.keeps("22: none ended, upper", LifeEdgeTest::steps, x -> x.mean(false), NONE);
        due.keeps("22: none ended, lower", LifeEdgeTest::steps, x -> x.mean(true), NONE);
        due.keeps("22: one is on", LifeEdgeTest::inYear, x -> x.mean(false), NONE);
        // each year pays its number, from 1 on, so n years pay n (n + 1) / 2
        BonusLadder x = Due.told("class 0 0 0 0 0;loss 1 1;chances 1;odds 0;own 0;");
        int[] upper = {1, 3, 2, 5, 3, 7, 4, 9, 5, 11, 6, 13, 7, 15, 8, 17};
        for (int n = 1; n <= 20; n++) {
            x.set(0, 0, n);
            x.begin(false);
            x.quiet();
            int latest = Math.min(16, n);
            // the latest 16 alone: 17/2 and one more for each year that is forgotten
            due.is("22: upper, " + n, x.mean(false), upper[latest - 1] + 2 * (n - latest));
            due.is("22: lower, " + n, x.mean(true), n % 2 == 0 || n > 16 ? 2 : 1);
        }
        BonusLadder nothing = Due.told("class 0 0 0 0 0;loss 1 1;chances 1;odds 0;own 0;");
        nothing.live(3, 2, 0, 0);
        due.is("22: nothing paid, upper", nothing.mean(false), 0);
        due.is("22: nothing paid, lower", nothing.mean(true), 1);
        BonusLadder prime = Due.told("class 7 0 0 0 0;loss 3 1;chances 1;odds 0;own 0;");
        prime.live(2, 2, 0, 0);
        prime.begin(false);
        prime.loss(0, false);
        due.is("22: 24 by 3, upper", prime.mean(false), 8);
        due.is("22: 24 by 3, lower", prime.mean(true), 1);
        prime.begin(false);
        due.is("22: a year that is on is not told", prime.mean(false), 8);
    }

    // ---- 11, 50, 51: draws

    /** A draw modulo 12: a loss if it is below ODDS. */
    private static void drawsByOdds() {
        for (int[] seeds : FIRST_DRAW) {
            for (int draw = 0; draw < 12; draw++) {
                for (int odds = 0; odds <= 12; odds++) {
                    BonusLadder x = Due.told(BY_ODDS);
                    x.rule(1, odds);
                    int borne = draw < odds ? 1 : 0;
                    due.is("50: draw " + draw + " by odds " + odds, x.would(1, 2, 0, seeds[draw], 2), borne);
                    due.is("11: draw " + draw + " by odds " + odds, x.live(1, 2, 0, seeds[draw]), borne);
                }
            }
        }
    }

    /** The draw behind it modulo all WEIGHTS: the first SORT whose WEIGHT and those ahead of it together are above that. */
    private static void drawsBySorts() {
        int[] sorts = {0, 1, 1, 2, 2, 2, 3, 3, 3, 3, 4, 4, 4, 4, 4};
        for (int[] seeds : SECOND_DRAW) {
            for (int draw = 0; draw < 15; draw++) {
                BonusLadder x = Due.told(BY_SORT);
                due.is("50: draw " + draw + " of weights", x.would(1, 2, 0, seeds[draw], 0), sorts[draw] + 1);
                due.is("11: draw " + draw + " of weights", x.live(1, 2, 0, seeds[draw]), sorts[draw] + 1);
                due.is("20: the sort", x.book(0, 1), sorts[draw]);
            }
        }
        // no second draw where nothing comes: seed 1 draws 2, 8, 0, 11, 7, 0 modulo 12
        BonusLadder x = Due.told(BY_ODDS);
        x.rule(1, 1);
        int[] borne = {0, 0, 1, 1, 2};
        for (int n = 1; n <= 5; n++) {
            // the third year's loss takes the draw 11, too: the fourth and the fifth year have 7 and 0
            due.is("50: draws of " + n + " years", x.would(n, 2, 0, 1, 2), borne[n - 1]);
        }
        // x wraps around: these draw 5, 8, 11, 1 and 8, 10, 7, 8 and 1, 0, 3, 9 and 0, 6, 3, 4 modulo 12
        int[][] wraps = {{Integer.MAX_VALUE, 5, 8, 11, 1}, {Integer.MIN_VALUE, 8, 10, 7, 8}, {-1, 1, 0, 3, 9},
            {0, 0, 6, 3, 4}};
        for (int[] w : wraps) {
            for (int odds = 0; odds <= w[1]; odds++) {
                x = Due.told(BY_ODDS);
                x.rule(1, odds);
                int found = 0;
                for (int year = 1; year <= 4 && found == 0; year++) {
                    found = w[year] < odds ? 1 : 0;
                    due.is("50: seed " + w[0] + " by odds " + odds, x.would(year, 2, 0, w[0], 2), found);
                }
            }
        }
    }

    private static void drawsByRules() {
        for (int size = 1; size <= 5; size++) {
            BonusLadder x = Due.told("class 9 0 0 0 0;loss " + size + " 1;chances 1;odds 12;own 0;");
            for (int v = 0; v <= 6; v++) {
                due.is("50: told if the size is above v", x.would(1, 3, v, 3, 1), size > v ? 1 : 0);
                due.is("50: borne if not", x.would(1, 3, v, 3, 2), size > v ? 0 : 1);
            }
            due.is("50: all told", x.would(1, 1, 0, 3, 1), 1);
            due.is("50: all borne", x.would(1, 2, 0, 3, 2), 1);
        }
        BonusLadder great = Due.told("class 9 0 0 0 0;loss 999 1;chances 1;odds 12;own 0;");
        due.is("50: the last size that is above", great.would(1, 3, 998, 3, 1), 1);
        due.is("50: none is above 999", great.would(1, 3, 999, 3, 1), 0);
        BonusLadder patient = Due.told(PATIENT);
        for (int n = 1; n <= 20; n++) {
            // both are alike while years are left, so it is borne; the last year tells
            due.is("50: told with the years that are left, " + n, patient.would(n, 0, 0, 5, 1), 1);
            due.is("50: borne with the years that are left, " + n, patient.would(n, 0, 0, 5, 2), n - 1);
            due.is("50: the class then", patient.would(n, 0, 0, 5, 3), 1);
            due.is("51: of several the first", patient.bestRule(n, 5), 0);
        }
        guardsByDraws();
        choicesByDraws();
    }

    /** By RULE 0 a loss is TOLD if COST says so, by what counts and the years that are left. */
    private static void choicesByDraws() {
        // with 5 years left to tell costs one thousandth less, with 6 it costs more; seed 0 brings a loss first
        String fine = "class 0 2 1 1 99;class 0 1 3 3 99;class 0 2 2 2 99;class 999 3 3 3 99;loss 1 1;chances 1;odds 4;own 0;";
        BonusLadder x = Due.told(fine);
        x.live(5, 0, 0, 0);
        due.is("11: told with 5 years left", x.book(x.count(8) - 1, 2), 1);
        BonusLadder y = Due.told(fine);
        y.live(6, 0, 0, 0);
        due.is("11: borne with 6 years left", y.book(y.count(8) - 1, 2), 0);
        BonusLadder year = Due.told(fine);
        year.begin(false);
        due.is("44: told with 5 years left", year.advice(5, 0), 1);
        due.is("44: borne with 6 years left", year.advice(6, 0), 0);
        // seed 3 brings sorts 1, 1, 0: behind two that count the third, small one is told, too
        BonusLadder third = Due.told("class 0 0 1 2 99;class 10 1 1 1 99;class 100 2 2 2 99;loss 50 1;loss 500 1;"
                + "chances 3;odds 12;own 0;");
        third.live(2, 0, 0, 3);
        due.is("11: behind two that count", third.ledger(1, 2), 3);
    }

    /** By RULE 0 with a GUARD if COST with the YEARS that are left buys it; else without. */
    private static void guardsByDraws() {
        String ladder = "class 0 0 1 1 50;class 100 1 1 1 50;loss 500 1;chances 1;odds 12;own 0;";
        BonusLadder x = Due.told(ladder);
        due.is("11: the last year without a guard", x.live(1, 0, 0, 5), 0);
        x = Due.told(ladder);
        due.is("11: two years, the first with a guard", x.live(2, 0, 0, 5), 50);
        due.is("19: paid for guards", x.life(7), 50);
        due.is("21: none counted, then one", x.ledger(1, 2) * 10 + x.ledger(0, 2), 1);
        x = Due.told(ladder);
        x.live(1, 1, 0, 5);
        due.is("11: other rules buy none", x.life(7) * 10 + x.life(0), 1);
        BonusLadder alike = Due.told("class 0 0 1 1 50;class 50 1 1 1 50;loss 500 1;chances 1;odds 12;own 0;");
        due.is("24: both are alike", alike.guards(2, 0), 0);
        alike.live(2, 0, 0, 5);
        due.is("11: not bought if both are alike", alike.life(7), 0);
        BonusLadder behind = Due.told("class 0 0 0 1 9;class 100 1 1 1 9;loss 500 1;chances 3;odds 12;own 0;");
        behind.live(1, 1, 0, 5);
        due.is("11: three told count three", behind.ledger(0, 2) * 10 + behind.life(0), 31);
    }

    private static void drawsFromHere() {
        due.acts("11: one act", () -> Due.told(BY_SORT), x -> x.live(20, 1, 0, 1), 0);
        due.keeps("11: a year is on", LifeEdgeTest::inYear, x -> x.live(1, 1, 0, 1), NONE);
        BonusLadder x = steps();
        x.rule(1, 0);
        due.is("11: from class 0", x.live(1, 2, 0, 1), 30);
        due.is("11: from the life as it is", x.live(1, 2, 0, 1), 20);
        due.is("11: what is paid in these", x.live(2, 2, 0, 1), 20);
        due.is("11: years that ended", x.life(5), 4);
        due.is("11: all that is paid", x.life(12), 70);
        x.begin(false);
        due.is("11: the year is the fifth", x.life(5), 4);
        x.loss(0, true);
        due.is("20: its number from 0", x.book(0, 0), 4);
        BonusLadder longest = steps();
        longest.rule(1, 0);
        due.is("11: 20 years", longest.live(20, 2, 0, 1), 30 + 20 + 18 * 10);
        due.is("11: 20 ended", longest.life(5) * 100 + longest.count(9), 2016);
        due.is("50: 20 years", Due.told(PATIENT).would(20, 1, 0, 1, 0), 19);
    }

    private static void wouldFromHere() {
        due.keeps("50: nothing happens", LifeEdgeTest::inYear, x -> x.would(20, 1, 0, 5, 0), steps().would(20, 1, 0, 5, 0));
        due.keeps("51: nothing happens", LifeEdgeTest::inYear, x -> x.bestRule(20, 5), steps().bestRule(20, 5));
        BonusLadder x = steps();
        x.rule(1, 0);
        x.move(2);
        due.is("50: from the class as it is", x.would(1, 2, 0, 5, 0), 10);
        x.begin(true);
        x.loss(1, true);
        x.loss(1, true);
        due.is("50: though a year is on, in all", x.would(2, 2, 0, 5, 0), 20);
        due.is("50: though a year is on, told", x.would(2, 2, 0, 5, 1), 0);
        due.is("50: though a year is on, the class then", x.would(2, 2, 0, 5, 3), 2);
        due.is("51: though a year is on", x.bestRule(2, 5), 0);
        // what was told and paid before is not told again
        x.quiet();
        due.is("50: these years alone", x.would(1, 2, 0, 5, 0), 20);
        due.is("50: told in these", x.would(1, 1, 0, 5, 1), 0);
        // the best: told costs 100 then, borne 60; by rule 1 the second year costs 100, by 2 both losses 120
        BonusLadder y = Due.told("class 0 0 1 1 99;class 100 1 1 1 99;loss 60 1;chances 1;odds 12;own 0;");
        due.is("51: borne, then told", y.bestRule(2, 5), 0);
        due.is("50: it pays", y.would(2, 0, 0, 5, 0), 60);
        due.is("50: all told", y.would(2, 1, 0, 5, 0), 100);
        due.is("50: all borne", y.would(2, 2, 0, 5, 0), 120);
        // seed 8 draws 11 and 9 modulo 12: no loss comes, and the guard that the best buys is of no use
        BonusLadder lucky = Due.told("class 0 0 1 1 1;class 100 1 1 1 99;loss 999 1;chances 1;odds 3;own 0;");
        due.is("50: a guard in vain", lucky.would(2, 0, 0, 8, 0) - lucky.would(2, 1, 0, 8, 0), 1);
        due.is("51: told and borne alike: the first of these", lucky.bestRule(2, 8), 1);
        // seed 78 brings the small loss, then nothing twice: told 60, borne 36; but 27.5 more are likely, so the best tells
        BonusLadder third = Due.told("class 0 0 1 1 99;class 30 1 1 1 99;loss 36 1;loss 999 9;chances 1;odds 11;own 0;");
        due.is("50: the best tells", third.would(3, 0, 0, 78, 0), 60);
        due.is("50: all told", third.would(3, 1, 0, 78, 0), 60);
        due.is("50: all borne", third.would(3, 2, 0, 78, 0), 36);
        due.is("51: the last of the three", third.bestRule(3, 78), 2);
        BonusLadder bear = Due.told("class 0 0 1 1 99;class 999 1 1 1 99;loss 1 1;chances 1;odds 12;own 1;");
        due.is("51: by cost and by bearing alike", bear.bestRule(3, 9), 0);
    }

    // ---- 44

    private static void advice() {
        due.keeps("44: no year is on", LifeEdgeTest::steps, x -> x.advice(1, 0), NONE);
        Due.Make year = () -> {
            BonusLadder x = Due.told(PATIENT);
            x.begin(false);
            return x;
        };
        due.keeps("44: the last year", year, x -> x.advice(1, 0), 1);
        due.keeps("44: both alike", year, x -> x.advice(2, 0), 0);
        due.keeps("44: 20 years", year, x -> x.advice(20, 0), 0);
        BonusLadder x = year.make();
        x.loss(0, true);
        due.is("44: the year is over", x.advice(1, 0), NONE);
        // three chances: FREE and ONE lead to class 0, TWO to class 1
        BonusLadder y = Due.told("class 0 0 0 1 9;class 100 1 1 1 9;loss 10 1;chances 3;odds 0;own 0;");
        y.begin(true);
        int[] told = {1, 1, 0};
        for (int k = 0; k < 3; k++) {
            due.is("44: with a guard, chance " + k, y.advice(2, 0), told[k]);
            y.loss(0, true);
        }
        due.is("44: no year", y.advice(2, 0), NONE);
        y.move(0);
        y.begin(false);
        int[] bareTold = {1, 0, 1};
        for (int k = 0; k < 3; k++) {
            due.is("44: without a guard, chance " + k, y.advice(2, 0), bareTold[k]);
            y.loss(0, true);
        }
    }
}
