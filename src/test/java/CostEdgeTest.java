/** The edges of what is looked at from the end, by odds, with two cars, and were (promises 18, 23 to 49, 52). */
public final class CostEdgeTest {
    private static final int NONE = BonusLadder.NONE;

    /** Three classes, two chances; a year to go costs the premium and 500. */
    private static final String STEPS =
            "class 30 1 0 0 4;class 20 2 0 0 3;class 10 2 1 0 2;loss 5 3;loss 40 1;chances 2;odds 3;own 1;";
    /** By odds 0 nothing is likely: to tell in class 0 with L years to go costs L less 1, and own. */
    private static final String CALM = "class 0 0 1 1 9;class 1 1 1 1 9;loss 19 1;loss 20 1;chances 1;odds 0;own 0;";
    /** Eight classes in a row. */
    private static final String ROW = "class 8 1 0 0 0;class 7 2 0 0 0;class 6 3 0 0 0;class 5 4 0 0 0;class 4 5 0 0 0;"
            + "class 3 6 0 0 0;class 2 7 0 0 0;class 1 7 0 0 0;loss 1 1;chances 1;odds 6;";
    /** Eight classes in a ring. */
    private static final String RING = "class 8 1 7 0 0;class 7 2 7 1 0;class 6 3 7 2 0;class 5 4 7 3 0;class 4 5 7 4 0;"
            + "class 3 6 7 5 0;class 2 7 7 6 0;class 1 0 7 7 0;loss 1 1;chances 1;odds 6;";

    /** In class 1 a loss is better borne (a third each year, cut), in class 2 it is told for nothing. */
    private static final String FINE = "class 0 2 1 1 99;class 0 1 3 3 99;class 0 2 2 2 99;class 999 3 3 3 99;"
            + "loss 1 1;chances 1;odds 4;own 0;";
    /** Half of the chances bring a loss; one that counts costs 100 with two years to go. */
    private static final String HALF = "class 0 0 1 1 10;class 100 1 1 1 9;loss 500 1;chances 2;odds 6;own 0;";

    private static final Due due = new Due();

    private CostEdgeTest() {
    }

    public static void main(String[] args) {
        noYears();
        cut();
        guardIfLess();
        guardThereYet();
        toldIfLess();
        byOneThousandth();
        ahead();
        least();
        tells();
        patience();
        worst();
        rules();
        bestLimit();
        worthAndCheapest();
        ladder();
        ways();
        spread();
        shared();
        joined();
        rebate();
        were();
        oddsFor();
        bestOwn();
        dearest();
        noneAheadOfNotAny();
        due.covers(18);
        for (int promise = 23; promise <= 49; promise++) {
            if (promise != 44) {
                due.covers(promise);
            }
        }
        due.covers(52);
        due.end("CostEdgeTest");
    }

    private static BonusLadder steps() {
        return Due.told(STEPS);
    }

    private static BonusLadder calm() {
        return Due.told(CALM);
    }

    // ---- 23, 24

    private static void noYears() {
        for (int c = 0; c < 3; c++) {
            int d = c;
            due.keeps("23: no years", CostEdgeTest::steps, x -> x.cost(0, d), 0);
            due.keeps("24: no years", CostEdgeTest::steps, x -> x.guards(0, d), 0);
            due.keeps("30: no years", CostEdgeTest::steps, x -> x.worst(0, d), 0);
            due.keeps("31: no years", CostEdgeTest::steps, x -> x.bare(0, d), 0);
            due.keeps("32: no years", CostEdgeTest::steps, x -> x.by(1, 0, 0, d), 0);
            due.keeps("33: no years", CostEdgeTest::steps, x -> x.bestLimit(0, d), 0);
            due.keeps("34: no years", CostEdgeTest::steps, x -> x.worth(0, d, 1), 0);
            due.keeps("41: no years", CostEdgeTest::steps, x -> x.shared(0, d, 1), 0);
            due.keeps("42: no years", CostEdgeTest::steps, x -> x.joined(0, d, 1, 50), 0);
            due.keeps("43: no years", CostEdgeTest::steps, x -> x.rebate(0, d, 1), -2);
            due.keeps("46: no years", CostEdgeTest::steps, x -> x.were(1, 12, 0, d), 0);
            due.keeps("47: no years", CostEdgeTest::steps, x -> x.lacking(1, 0, d), 0);
            due.keeps("49: no years", CostEdgeTest::steps, x -> x.bestOwn(9999, 0, d), 0);
        }
        due.keeps("35: no years", CostEdgeTest::steps, x -> x.cheapest(0), 0);
        due.keeps("48: no years, limit 0", CostEdgeTest::steps, x -> x.oddsFor(0, 0, 0), 0);
        due.keeps("48: no years, limit 1", CostEdgeTest::steps, x -> x.oddsFor(1, 0, 0), -2);
        due.is("23: one year", steps().cost(1, 0), 30500);
        due.is("23: 20 years", Due.told("class 999 0 0 0 0;loss 1 1;odds 0;").cost(20, 0), 20 * 999000);
        due.is("23: as much as there can be",
                Due.told("class 999 0 0 0 99;loss 999 9;chances 3;odds 12;own 99;").cost(20, 0), 20 * (999000 + 3 * 99000));
    }

    /** COST ahead of a CHANCE is cut at each one. */
    private static void cut() {
        // a loss of 1 in 1 of 12 ways, told for 1: 83 and a third
        BonusLadder x = Due.told("class 0 0 0 0 0;loss 1 1;chances 1;odds 1;own 1;");
        due.is("23: cut", x.cost(1, 0), 83);
        due.is("23: cut each year", x.cost(2, 0), 166);
        due.is("23: 83 and a third thrice", x.cost(3, 0), 249);
        x.rule(0, 3);
        due.is("23: cut at each chance", x.cost(1, 0), 249);
        due.is("25: two left", x.ahead(1, 0, 1, 0, false), 166);
        due.is("31: cut", x.bare(1, 0), 249);
        due.is("32: cut", x.by(2, 0, 1, 0), 249);
        due.is("41: cut at each chance of both", x.shared(1, 0, 0), 498);
        due.is("42: cut at each chance of both", x.joined(1, 0, 0, 0), 498);
        // 1 of 12 ways times 2 of 3 weights of 1: 55 and five ninths; of all together, not sort by sort
        BonusLadder y = Due.told("class 0 0 0 0 0;loss 1 1;loss 1 2;loss 1 4;chances 1;odds 1;own 1;");
        due.is("23: cut once for all sorts", y.cost(1, 0), 83);
        due.is("18: ways of a sort", y.ofSort(2, 2), 4);
    }

    private static void guardIfLess() {
        // to tell the sure loss costs 50 more with two years to go
        String ladder = "class 0 0 1 1 50;class 50 1 1 1 0;loss 500 1;chances 1;odds 12;own 0;";
        BonusLadder x = Due.told(ladder);
        due.is("24: both alike", x.guards(2, 0), 0);
        due.is("23: both alike", x.cost(2, 0), 50000);
        x.set(0, 4, 49);
        due.is("24: one less", x.guards(2, 0), 1);
        due.is("23: one less", x.cost(2, 0), 49000);
        due.is("31: no guard is ever bought", x.bare(2, 0), 50000);
        x.set(0, 4, 51);
        due.is("24: one more", x.guards(2, 0), 0);
        due.is("24: the last year", x.guards(1, 0), 0);
        due.is("24: nothing to guard", x.guards(20, 1), 0);
        // one thousandth less is less: 11 of 12 ways
        BonusLadder y = Due.told("class 0 0 1 1 1;class 12 1 1 1 0;loss 500 1;chances 1;odds 1;own 0;");
        due.is("25: ahead without", y.ahead(2, 0, 0, 0, false), 1000);
        due.is("25: ahead with", y.ahead(2, 0, 0, 0, true), 0);
        due.is("24: alike to a thousandth", y.guards(2, 0), 0);
        y.set(1, 0, 13);
        due.is("24: less by thousandths", y.guards(2, 0), 1);
        BonusLadder many = Due.told("class 0 0 0 1 5;class 100 1 1 1 0;loss 500 1;chances 3;odds 12;own 0;");
        // one may count; of three sure losses two are told bare, or with a guard all but one that is told late
        due.is("25: with a guard two go by", many.ahead(2, 0, 1, 0, true), 0);
        due.is("25: without one counts, the other does harm", many.ahead(2, 0, 1, 0, false), 100000);
    }

    /** Of losses TOLD all but the first COUNT; while nothing comes, or what comes is BORNE, the GUARD is there yet. */
    private static void guardThereYet() {
        BonusLadder x = Due.told(HALF);
        due.is("25: the last chance without", x.ahead(2, 0, 1, 0, false), 50000);
        due.is("25: the last chance with", x.ahead(2, 0, 1, 0, true), 0);
        due.is("25: one counts", x.ahead(2, 0, 1, 1, false), 100000);
        due.is("25: half the guard is there yet, half it is gone", x.ahead(2, 0, 0, 0, true), 25000);
        due.is("25: without", x.ahead(2, 0, 0, 0, false), 75000);
        due.is("24: it is bought", x.guards(2, 0), 1);
        due.is("23: the fee and what lies ahead", x.cost(2, 0), 35000);
        due.is("31: without", x.bare(2, 0), 75000);
        due.is("28: to tell takes the guard away", x.gain(2, 0, 0, 0, true, 0), 450000);
        x.set(0, 4, 50);
        due.is("24: alike", x.guards(2, 0), 0);
        due.is("23: alike", x.cost(2, 0), 75000);
        x.sort(0, 0, 40);
        due.is("25: borne the guard is there yet", x.ahead(2, 0, 0, 0, true), 10000);
        due.is("28: alike to 50 less 0", x.gain(2, 0, 0, 0, true, 0), 20000);
        x.sort(0, 0, 20);
        due.is("28: to bear both is as good", x.gain(2, 0, 0, 0, true, 0), 10000);
        BonusLadder three = Due.told(HALF + "chances 3;");
        due.is("25: three chances with", three.ahead(2, 0, 0, 0, true), 50000);
        due.is("25: three chances without", three.ahead(2, 0, 0, 0, false), 87500);
    }

    // ---- 25, 26, 27, 28, 29

    /** What costs one thousandth less costs less. */
    private static void byOneThousandth() {
        BonusLadder x = Due.told(FINE);
        long[] gain = {1000, 1000, 667, 334, 1, -332};
        for (int l = 1; l <= 6; l++) {
            due.is("28: with years " + l, x.gain(l, 0, 0, 0, false, 0), gain[l - 1]);
            due.is("27: with years " + l, x.tells(l, 0, 0, 0, false), l < 6 ? 1 : 0);
            due.is("26: with years " + l, x.least(l, 0, 0, 0, false), l < 6 ? 1 : 2);
        }
        due.is("29: one thousandth less is told yet", x.patience(0, 0), 6);
        // 2331 for the class behind one that counts, 2332 for the other: one thousandth less than nothing
        BonusLadder y = Due.told("class 0 3 1 1 99;class 0 1 4 4 99;class 0 2 2 2 99;class 1 2 2 2 99;class 999 4 4 4 99;"
                + "loss 2 1;chances 1;odds 4;own 1;");
        due.is("23: one that counts", y.cost(4, 1), 2331);
        due.is("23: none", y.cost(4, 3), 2332);
        due.is("26: any size is worth telling", y.least(5, 0, 0, 0, false), 1);
        due.is("28: by as much", y.gain(5, 0, 0, 0, false, 0), 1001);
    }

    private static void toldIfLess() {
        BonusLadder x = calm();
        due.is("28: both alike", x.gain(20, 0, 0, 0, false, 0), 0);
        due.is("27: borne if both are alike", x.tells(20, 0, 0, 0, false), 2);
        due.is("28: told costs less", x.gain(20, 0, 0, 0, false, 1), 1000);
        due.is("28: told costs more", x.gain(20, 1, 0, 0, false, 0), 19000);
        x.rule(2, 1);
        due.is("28: by its own part dearer", x.gain(20, 0, 0, 0, false, 0), -1000);
        due.is("27: none", x.tells(20, 0, 0, 0, false), 0);
        x.rule(2, 99);
        due.is("28: the size is all that is paid", x.gain(1, 0, 0, 0, false, 0), 0);
        due.is("27: so it is borne", x.tells(1, 0, 0, 0, false), 0);
        due.is("28: with a guard", x.gain(20, 0, 0, 0, true, 0), 0);
    }

    private static void ahead() {
        // FREE, ONE, TWO cost 0, 10 and 100 then
        String ladder = "class 0 0 1 2 9;class 10 1 1 1 9;class 100 2 2 2 9;loss 500 1;chances 3;odds 12;own 0;";
        BonusLadder x = Due.told(ladder);
        long[] behind = {0, 10000, 100000};
        for (int t = 0; t <= 2; t++) {
            due.is("25: all gone", x.ahead(2, 0, 3, t, false), behind[t]);
            due.is("25: all gone, a guard there", x.ahead(2, 0, 3, t, true), behind[t]);
            due.is("25: the last one", x.ahead(2, 0, 2, t, false), behind[Math.min(2, t + 1)]);
            due.is("25: the last one, a guard there", x.ahead(2, 0, 2, t, true), behind[t]);
            due.is("25: two left", x.ahead(2, 0, 1, t, false), 100000);
            due.is("25: two left, a guard there", x.ahead(2, 0, 1, t, true), behind[Math.min(2, t + 1)]);
            due.is("25: all left, a guard there", x.ahead(2, 0, 0, t, true), 100000);
            due.is("25: the last year", x.ahead(1, 0, 0, t, false), 0);
            due.is("28: at the last one", x.gain(2, 0, 2, t, false, 0),
                    500000 - (behind[Math.min(2, t + 1)] - behind[t]));
            due.is("28: at the last one, a guard there", x.gain(2, 0, 2, t, true, 0), 500000);
        }
        due.is("25: a greater l", x.ahead(3, 0, 3, 1, false), 20000);
        due.keeps("25: all gone and one more", () -> Due.told(ladder), y -> y.ahead(2, 0, 4, 0, false), NONE);
        due.keeps("25: gone of fewer", () -> Due.told(ladder + "chances 1;"), y -> y.ahead(2, 0, 2, 0, false), NONE);
        due.is("25: all gone of fewer", Due.told(ladder + "chances 1;").ahead(2, 0, 1, 2, false), 100000);
    }

    private static void least() {
        BonusLadder x = calm();
        for (int l = 1; l <= 20; l++) {
            // l less 1 is alike, one more is worth telling
            due.is("26: with years " + l, x.least(l, 0, 0, 0, false), l);
        }
        x.rule(2, 7);
        due.is("26: above the own part", x.least(1, 0, 0, 0, false), 8);
        due.is("26: by own part and premium", x.least(20, 0, 0, 0, false), 27);
        due.is("26: with a guard", x.least(20, 0, 0, 0, true), 8);
        due.keeps("26: no chance is left", CostEdgeTest::calm, y -> y.least(2, 0, 1, 0, false), NONE);
        due.keeps("27: no chance is left", CostEdgeTest::calm, y -> y.tells(2, 0, 1, 0, false), NONE);
        due.keeps("28: no chance is left", CostEdgeTest::calm, y -> y.gain(2, 0, 1, 0, false, 0), Long.MIN_VALUE);
        BonusLadder far = Due.told("class 0 0 1 1 99;class 999 1 1 1 99;loss 1 1;chances 1;odds 0;own 8;");
        due.is("26: the greatest", far.least(11, 0, 0, 0, false), 9999);
        far.rule(2, 9);
        due.is("26: one beyond", far.least(11, 0, 0, 0, false), -2);
        due.is("26: far beyond", far.least(20, 0, 0, 0, false), -2);
        due.is("26: above a size that there is", far.least(2, 0, 0, 0, false), 1009);
        BonusLadder better = Due.told("class 9 0 1 1 9;class 1 1 1 1 9;loss 5 1;chances 1;odds 0;own 99;");
        due.is("26: to tell is worth more than nothing", better.least(2, 0, 0, 0, false), 1);
        due.is("27: so it is told", better.tells(2, 0, 0, 0, false), 1);
        due.is("28: though the own part is as much", better.gain(2, 0, 0, 0, false, 0), 8000);
        // by thousandths: 83 and a third more, cut to 83: a loss of 1 is worth telling
        BonusLadder part = Due.told("class 0 0 1 1 99;class 0 1 2 2 99;class 1 2 2 2 99;loss 1 1;chances 1;odds 1;own 0;");
        due.is("26: thousandths", part.least(3, 0, 0, 0, false), 1);
        due.is("28: thousandths", part.gain(3, 0, 0, 0, false, 0), 1000 - 83);
    }

    private static void tells() {
        BonusLadder x = Due.told("class 0 0 1 1 9;class 10 1 1 1 9;loss 9 1;loss 10 1;loss 11 1;loss 1 1;loss 999 1;"
                + "chances 1;odds 0;own 0;");
        due.is("27: bits of five sorts", x.tells(2, 0, 0, 0, false), 4 + 16);
        due.is("27: all", x.tells(1, 0, 0, 0, false), 31);
        due.is("27: all with a guard", x.tells(2, 0, 0, 0, true), 31);
        x.rule(2, 99);
        due.is("27: none but the greatest", x.tells(1, 0, 0, 0, false), 16);
        x.drop(4);
        due.is("27: none", x.tells(1, 0, 0, 0, false), 0);
    }

    private static void patience() {
        due.keeps("29: the greatest", CostEdgeTest::calm, x -> x.patience(0, 0), 20);
        due.keeps("29: beyond it with none", CostEdgeTest::calm, x -> x.patience(0, 1), -2);
        due.keeps("29: no such sort", CostEdgeTest::calm, x -> x.patience(0, 2), NONE);
        due.keeps("29: no such class", CostEdgeTest::calm, x -> x.patience(2, 0), NONE);
        BonusLadder x = calm();
        x.sort(0, 0, 1);
        due.is("29: both alike is borne", x.patience(0, 0), 2);
        x.rule(2, 1);
        due.is("29: the least", x.patience(0, 0), 1);
        x.set(0, 4, 0);
        due.is("29: without a guard, though it is for nothing", x.patience(0, 0), 1);
        BonusLadder more = Due.told(CALM + "chances 3;");
        due.is("29: the first of three chances", more.patience(0, 0), 20);
        due.is("29: the first of three chances, none", more.patience(0, 1), -2);
        // at the first of two even chances: told 100, borne once and a half: 99 or 100.5; at the second it is borne
        int[][] halves = {{66, 2}, {67, 3}};
        for (int[] h : halves) {
            BonusLadder half = Due.told("class 0 0 1 1 99;class 100 1 1 1 99;loss " + h[0] + " 1;chances 2;odds 6;own 0;");
            due.is("29: the first of two, size " + h[0], half.patience(0, 0), h[1]);
            due.is("27: the second of two", half.tells(2, 0, 1, 0, false), 0);
        }
        BonusLadder free = Due.told("class 0 0 1 1 0;class 90 1 1 1 0;loss 10 1;chances 1;odds 12;own 0;");
        due.is("24: a guard for nothing", free.guards(2, 0), 1);
        due.is("29: borne without one", free.patience(0, 0), 2);
    }

    // ---- 30

    private static void worst() {
        // nothing: class 1, dear; a loss told: class 0; the greater loss is paid in the last year
        String ladder = "class 10 1 0 0 0;class 90 1 0 0 0;loss 1 1;loss 2 1;chances 1;own 3;";
        long[][] cases = {{0, 100000}, {1, 102000}, {11, 102000}, {12, 24000}};
        for (long[] c : cases) {
            BonusLadder x = Due.told(ladder);
            x.rule(1, (int) c[0]);
            due.is("30: nothing costs most, odds " + c[0], x.worst(2, 0), c[1]);
        }
        // a loss costs most: by odds 0 none comes
        String dear = "class 10 0 1 1 0;class 90 0 1 1 0;loss 500 1;loss 3 9;chances 1;own 7;";
        long[][] dearCases = {{0, 20000}, {1, 10000 + 7000 + 90000 + 7000}, {12, 10000 + 7000 + 90000 + 7000}};
        for (long[] c : dearCases) {
            BonusLadder x = Due.told(dear);
            x.rule(1, (int) c[0]);
            due.is("30: a loss costs most, odds " + c[0], x.worst(2, 0), c[1]);
        }
        BonusLadder free = Due.told("class 0 0 1 1 0;class 90 1 1 1 0;loss 500 1;chances 1;odds 1;own 0;");
        due.is("30: no guard is bought", free.worst(2, 0), 90000);
        due.is("23: though it is for nothing", free.cost(2, 0), 0);
        due.is("30: a sure loss that costs nothing", Due.told("class 0 0 0 0 0;loss 5 1;odds 12;").worst(20, 0), 0);
        BonusLadder three = Due.told("class 0 0 0 0 0;loss 7 1;chances 3;odds 1;own 2;");
        due.is("30: at each chance", three.worst(1, 0), 6000);
        due.is("30: in each year", three.worst(20, 0), 120000);
    }

    // ---- 32, 33

    private static void rules() {
        BonusLadder x = Due.told("class 0 0 0 0 0;loss 1 1;loss 500 1;loss 999 1;chances 1;odds 12;own 0;");
        due.is("32: above 0: all told", x.by(3, 0, 1, 0), 0);
        due.is("32: above 1: the size that is v is borne", x.by(3, 1, 1, 0), 333);
        due.is("32: above 499", x.by(3, 499, 1, 0), 333);
        due.is("32: above 500", x.by(3, 500, 1, 0), 167000);
        due.is("32: above 998", x.by(3, 998, 1, 0), 167000);
        due.is("32: above 999: all borne", x.by(3, 999, 1, 0), 500000);
        due.is("32: all borne", x.by(2, 0, 1, 0), 500000);
        due.is("32: all told", x.by(1, 0, 1, 0), 0);
        due.is("32: as in bare", x.by(0, 0, 1, 0), x.bare(1, 0));
        BonusLadder free = Due.told("class 0 0 1 1 0;class 90 1 1 1 0;loss 500 1;chances 1;odds 12;own 0;");
        due.is("32: bare of guards, by cost", free.by(0, 0, 2, 0), 90000);
        due.is("32: bare of guards, all told", free.by(1, 0, 2, 0), 90000);
        due.is("32: bare of guards, above 0", free.by(3, 0, 2, 0), 90000);
        BonusLadder own = Due.told("class 0 0 0 0 0;loss 3 1;chances 1;odds 12;own 9;");
        due.is("32: told the size is paid, if that is less", own.by(1, 0, 1, 0), 3000);
    }

    private static void bestLimit() {
        // with two years to go to tell costs 500: of limits that tell the greatest loss alone 50 is the least
        String ladder = "class 0 0 1 1 9;class 500 1 1 1 9;loss 49 1;loss 50 1;loss 999 1;chances 1;odds 12;own 0;";
        due.is("33: of several the least", Due.told(ladder).bestLimit(2, 0), 50);
        due.is("32: the several", Due.told(ladder).by(3, 50, 2, 0), Due.told(ladder).by(3, 998, 2, 0));
        due.holds("32: one less", Due.told(ladder).by(3, 50, 2, 0) < Due.told(ladder).by(3, 49, 2, 0));
        due.holds("32: one more", Due.told(ladder).by(3, 50, 2, 0) < Due.told(ladder).by(3, 999, 2, 0));
        due.is("33: all alike", Due.told("class 0 0 0 0 0;loss 5 1;chances 1;odds 0;").bestLimit(20, 0), 0);
        due.is("33: all told", Due.told(ladder).bestLimit(1, 0), 0);
        // told: 99 each year and 999 in all but the first; borne: 999 each year
        BonusLadder all = Due.told("class 0 0 1 1 9;class 999 1 1 1 9;loss 999 1;chances 1;odds 12;own 99;");
        due.is("33: the greatest", all.bestLimit(11, 0), 999);
        due.is("33: a year less", all.bestLimit(10, 0), 0);
        BonusLadder alike = Due.told("class 0 0 0 0 0;loss 5 1;loss 9 1;chances 1;odds 12;own 5;");
        due.is("33: told and borne alike", alike.bestLimit(1, 0), 0);
        String[] orders = {"loss 600 1;loss 20 1;loss 40 1;", "loss 600 1;loss 40 1;loss 20 1;",
            "loss 40 1;loss 20 1;loss 600 1;", "loss 20 1;loss 40 1;loss 600 1;"};
        for (String order : orders) {
            BonusLadder x = Due.told("class 0 0 1 1 9;class 500 1 1 1 9;" + order + "chances 1;odds 12;own 0;");
            due.is("33: sizes in any order", x.bestLimit(2, 0), 40);
        }
        BonusLadder one = Due.told("class 0 0 1 1 9;class 500 1 1 1 9;loss 1 1;loss 999 1;chances 1;odds 12;own 0;");
        due.is("33: the least size alone is borne", one.bestLimit(2, 0), 1);
    }

    // ---- 34, 35

    private static void worthAndCheapest() {
        BonusLadder x = steps();
        due.is("34: dearer there", x.worth(1, 2, 0), 20000);
        due.is("34: below 0", x.worth(1, 0, 2), -20000);
        due.is("34: both are one", x.worth(20, 1, 1), 0);
        due.is("35: one year", x.cheapest(1), 2);
        BonusLadder like = Due.told("class 5 1 1 1 0;class 5 2 2 2 0;class 5 2 2 2 0;class 4 3 3 3 0;class 4 3 3 3 0;"
                + "loss 1 1;odds 0;");
        due.is("35: of several the first", like.cheapest(1), 3);
        due.is("35: all alike", like.cheapest(0), 0);
        like.set(4, 0, 3);
        due.is("35: the last one", like.cheapest(20), 4);
        due.is("35: the only one", Due.told("class 9 0 0 0 0;loss 1 1;").cheapest(20), 0);
        due.is("35: the second of two", Due.told("class 9 0 0 0 0;class 8 1 1 1 0;loss 1 1;").cheapest(1), 1);
        due.is("35: the second of three", Due.told("class 9 0 0 0 0;class 7 1 1 1 0;class 8 2 2 2 0;loss 1 1;").cheapest(1), 1);
    }

    // ---- 36, 37, 45

    private static void ladder() {
        BonusLadder row = Due.told(ROW);
        BonusLadder ring = Due.told(RING);
        for (int c = 0; c < 8; c++) {
            due.is("36: all of a row", row.reach(c), 255);
            due.is("45: a row's end", row.rest(c), 7);
            due.is("45: a ring comes back first", ring.rest(c), c);
            for (int to = 0; to < 8; to++) {
                due.is("37: along a row", row.years(c, to), to >= c ? to - c : -2);
                due.is("37: around a ring", ring.years(c, to), (to - c + 8) % 8);
            }
        }
        BonusLadder one = Due.told("class 1 0 0 0 0;loss 1 1;");
        due.is("36: it, too", one.reach(0), 1);
        due.is("37: both are one", one.years(0, 0), 0);
        due.is("45: the only one", one.rest(0), 0);
        // each of the three ways leads on: 0 by FREE to 1, 1 by ONE to 2, 2 by TWO to 3; none leads back
        BonusLadder ways = Due.told("class 1 1 0 0 0;class 1 1 2 1 0;class 1 2 2 3 0;class 1 3 3 3 0;loss 1 1;");
        int[] reach = {15, 14, 12, 8};
        for (int c = 0; c < 4; c++) {
            due.is("36: by each way, from " + c, ways.reach(c), reach[c]);
        }
        due.is("37: only without a loss that counts", ways.years(1, 2), -2);
        due.is("45: a year leads to itself", ways.rest(0) * 10 + ways.rest(2), 12);
        BonusLadder tail = Due.told("class 1 1 0 0 0;class 1 2 0 0 0;class 1 3 0 0 0;class 1 2 0 0 0;loss 1 1;");
        due.is("45: the first one that is met twice", tail.rest(0), 2);
        due.is("45: in the ring", tail.rest(3), 3);
        due.is("37: never back to the first", tail.years(2, 0), -2);
        due.is("37: into the ring", tail.years(0, 3), 3);
    }

    // ---- 38, 39, 40

    private static void ways() {
        int[][][] due3 = {{{12, 0, 0, 0}, {7, 5, 0, 0}, {0, 12, 0, 0}}, {{144, 0, 0, 0}, {49, 70, 25, 0}, {0, 0, 144, 0}},
            {{1728, 0, 0, 0}, {343, 735, 525, 125}, {0, 0, 0, 1728}}};
        int[] odds = {0, 5, 12};
        for (int chances = 1; chances <= 3; chances++) {
            for (int o = 0; o < 3; o++) {
                BonusLadder x = Due.told("class 1 1 2 3 0;class 1 1 1 1 0;class 1 2 2 2 0;class 1 3 3 3 0;loss 1 1;loss 1 8;");
                x.rule(0, chances);
                x.rule(1, odds[o]);
                int[] w = due3[chances - 1][o];
                for (int n = 0; n <= 3; n++) {
                    due.is("38: just " + n + " of " + chances + " by odds " + odds[o], x.ways(n), w[n]);
                }
                due.is("39: none", x.moves(0, 1), w[0]);
                due.is("39: one", x.moves(0, 2), w[1]);
                due.is("39: two or more", x.moves(0, 3), w[2] + w[3]);
                due.is("39: never", x.moves(0, 0), 0);
                due.is("39: the same one", x.moves(3, 3), w[0] + w[1] + w[2] + w[3]);
                due.is("18: ways of a sort", x.ofSort(1, 2), odds[o] * 8);
                due.is("40: one year", x.spread(1, 0, 3), w[2] + w[3]);
            }
        }
    }

    private static void spread() {
        String ladder = "class 1 1 0 0 0;class 1 1 0 0 0;loss 1 1;odds 12;";
        int[] most = {16, 8, 5};
        long[] all = {184884258895036416L, 184884258895036416L, 15407021574586368L};
        for (int chances = 1; chances <= 3; chances++) {
            BonusLadder x = Due.told(ladder + "chances " + chances + ";");
            int n = most[chances - 1];
            due.is("40: as many as there can be", x.spread(n, 1, 0), all[chances - 1]);
            due.is("40: none of them", x.spread(n, 1, 1), 0);
            due.is("40: one year too many", x.spread(n + 1, 1, 0), NONE);
            due.is("40: no years, the same", x.spread(0, 1, 1), 1);
            due.is("40: no years, another", x.spread(0, 1, 0), 0);
            due.is("40: below 0", x.spread(-1, 1, 1), NONE);
            // 3 times the first wraps around to 2, 2 times the second to 0
            for (int wraps : new int[] {1431655766, Integer.MIN_VALUE, 1 << 30, Integer.MAX_VALUE, 17}) {
                due.is("40: far too many", x.spread(wraps, 1, 0), NONE);
            }
        }
        BonusLadder x = Due.told(ladder + "chances 1;odds 6;");
        due.is("40: half of them", x.spread(16, 0, 1), 92442129447518208L);
        due.is("40: two years from two classes", x.spread(2, 0, 0), 72);
    }

    // ---- 41, 42, 43

    private static void shared() {
        // one sure loss of either car; FREE is class 0 (nothing), ONE class 1 (10), TWO class 2 (100)
        String ladder = "class 0 0 1 2 0;class 10 1 1 1 0;class 100 2 2 2 0;loss 500 1;chances 1;odds 12;own 0;";
        BonusLadder x = Due.told(ladder);
        due.is("41: one for each", x.shared(2, 0, 0), 20000);
        due.is("41: both for the one that has nothing to lose", x.shared(2, 0, 1), 10000 + 10000);
        due.is("41: the other way round", x.shared(2, 1, 0), 10000 + 10000);
        due.is("41: no guards, though they are for nothing", x.cost(2, 0) + x.cost(2, 0), 0);
        x.sort(0, 0, 9);
        due.is("41: both borne", x.shared(2, 0, 0), 18000);
        x.sort(0, 0, 10);
        due.is("41: alike", x.shared(2, 0, 0), 20000);
        BonusLadder three = Due.told(ladder + "chances 3;");
        due.is("41: of six two or more for one", three.shared(2, 0, 0), 100000);
        due.is("41: all six for one", three.shared(2, 0, 1), 20000);
        due.is("41: the first year's premiums", three.shared(1, 1, 2), 110000);
        // by even odds: 10 of 20, 15 at the second chance behind one that is told, 5 behind none; and so on
        long[][] sizes = {{500, 10000, 44375, 76718}, {40, 10000, 31250, 62499}, {15, 10000, 21875, 35624}};
        for (long[] size : sizes) {
            for (int chances = 1; chances <= 3; chances++) {
                BonusLadder even = Due.told(ladder + "odds 6;chances " + chances + ";");
                even.sort(0, 0, (int) size[0]);
                due.is("41: size " + size[0] + ", chances " + chances, even.shared(2, 0, 0), size[chances]);
            }
        }
        BonusLadder again = Due.told(ladder + "odds 6;");
        for (int l : new int[] {3, 0, 2, 0, 1}) {
            for (int a = 0; a < 3; a++) {
                for (int b = 0; b < 3; b++) {
                    long fresh = Due.told(ladder + "odds 6;").shared(l, a, b);
                    due.is("41: asked again, years " + l, again.shared(l, a, b), fresh);
                    due.holds("41: nothing with no years", l > 0 || fresh == 0);
                }
            }
        }
        BonusLadder none = Due.told(ladder + "odds 0;");
        due.is("41: nothing comes", none.shared(20, 1, 2), 20 * 110000);
        BonusLadder same = steps();
        due.is("41: both in one class", same.shared(1, 1, 1), 41000);
    }

    private static void joined() {
        BonusLadder x = Due.told("class 10 0 0 0 0;class 10 2 2 2 0;class 90 2 2 2 0;class 11 3 3 3 0;loss 1 1;odds 0;");
        due.is("42: of like ones the first", x.joined(2, 0, 1, 0), 40000);
        due.is("42: of like ones the first, turned", x.joined(2, 1, 0, 0), 200000);
        due.is("42: one more is greater", x.joined(2, 0, 3, 0), 44000);
        due.is("42: the first is greater", x.joined(2, 3, 0, 0), 44000);
        due.is("42: both in one class", x.joined(2, 0, 0, 0), 40000);
        long[][] rebates = {{0, 22000}, {1, 21780}, {33, 14740}, {49, 11220}, {50, 11000}};
        for (long[] r : rebates) {
            due.is("42: less " + r[0], x.joined(1, 3, 3, (int) r[0]), r[1]);
        }
        due.is("42: less in each year", x.joined(20, 3, 3, 50), 220000);
        // one chance each, so two: FREE, ONE, TWO as for one car
        BonusLadder two = Due.told("class 0 0 1 2 0;class 10 1 1 1 0;class 100 2 2 2 0;loss 500 1;chances 1;odds 12;own 0;");
        due.is("42: two losses count", two.joined(2, 0, 0, 0), 200000);
        two.sort(0, 0, 90);
        due.is("42: one is better borne", two.joined(2, 0, 0, 0), 90000 + 20000);
        two.sort(0, 0, 9);
        due.is("42: both borne", two.joined(2, 0, 0, 0), 18000);
        BonusLadder six = Due.told("class 0 0 0 0 0;loss 9 1;chances 3;odds 12;own 1;");
        due.is("42: six chances", six.joined(1, 0, 0, 0), 6000);
        due.is("42: six chances a year", six.joined(20, 0, 0, 50), 120000);
    }

    private static void rebate() {
        BonusLadder x = Due.told("class 100 0 0 0 0;class 1 1 1 1 0;class 0 2 2 2 0;class 99 3 3 3 0;loss 1 1;odds 0;");
        due.keeps("43: the greatest", () -> Due.told("class 100 0 0 0 0;class 1 1 1 1 0;loss 1 1;odds 0;"),
                y -> y.rebate(1, 0, 1), 50);
        due.is("43: turned", x.rebate(1, 1, 0), 50);
        due.is("43: half is alike, so none", x.rebate(1, 0, 2), -2);
        due.is("43: none by nothing", x.rebate(1, 2, 2), -2);
        due.is("43: alike is not less", x.rebate(1, 0, 0), 1);
        due.is("43: half of a hundredth", x.rebate(1, 0, 3), 1);
        due.is("43: 20 years", x.rebate(20, 0, 1), 50);
        // joined in the class of the first car, which leads down; apart the second leads up
        BonusLadder y = Due.told("class 10 2 2 2 0;class 10 3 3 3 0;class 1 2 2 2 0;class 90 3 3 3 0;loss 1 1;odds 0;");
        due.is("43: none is needed", y.rebate(2, 0, 1), 0);
        due.is("43: turned it is not enough", y.rebate(2, 1, 0), 45);
        for (int p = 0; p <= 9; p++) {
            // twice 9 less r hundredths is less than 9 and p: r is above 50 less 50 p / 9
            BonusLadder z = Due.told("class 9 0 0 0 0;class " + p + " 1 1 1 0;loss 1 1;odds 0;");
            int least = (450 - 50 * p) / 9 + 1;
            due.is("43: 9 and " + p, z.rebate(1, 0, 1), least > 50 ? -2 : least);
        }
    }

    // ---- 46, 47, 48, 49, 52

    private static void were() {
        BonusLadder x = steps();
        long[] chances = {10250, 10500, 10750};
        for (int v = 1; v <= 3; v++) {
            int w = v;
            due.keeps("46: chances " + v, CostEdgeTest::steps, y -> y.were(0, w, 1, 2), chances[v - 1]);
        }
        due.keeps("46: odds 0", CostEdgeTest::steps, y -> y.were(1, 0, 20, 2), 200000);
        due.keeps("46: odds 12", CostEdgeTest::steps, y -> y.were(1, 12, 1, 2), 12000);
        due.keeps("46: own 0", CostEdgeTest::steps, y -> y.were(2, 0, 1, 2), 10000);
        due.keeps("46: own 99", CostEdgeTest::steps, y -> y.were(2, 99, 1, 2), 16874);
        due.is("46: as it is", x.were(2, 1, 9, 1), x.cost(9, 1));
        Due.Make year = () -> {
            BonusLadder y = steps();
            y.begin(true);
            return y;
        };
        due.keeps("46: chances, though a year is on", year, y -> y.were(0, 3, 1, 2), 10750);
        due.keeps("47: the first", CostEdgeTest::steps, y -> y.lacking(0, 1, 2), 10500);
        due.keeps("47: the last", CostEdgeTest::steps, y -> y.lacking(1, 1, 2), 10500);
        due.keeps("47: the only one", CostEdgeTest::calm1, y -> y.lacking(0, 1, 0), NONE);
        due.keeps("47: none such of one", CostEdgeTest::calm1, y -> y.lacking(1, 1, 0), NONE);
        // sizes 1 to 5, borne alike since own is as much: without one of them the others come by weights 1
        BonusLadder five = Due.told("class 0 0 0 0 0;loss 1 1;loss 2 1;loss 3 1;loss 4 1;loss 5 1;chances 1;odds 12;own 9;");
        for (int s = 0; s < 5; s++) {
            due.is("47: without " + s, five.lacking(s, 1, 0), (15 - s - 1) * 250L);
        }
        due.is("47: nothing happened", five.cost(1, 0), 3000);
        BonusLadder guarded = Due.told(HALF + "loss 1 9;");
        due.is("47: with guards", guarded.lacking(1, 2, 0), 35000);
        due.is("46: with guards", Due.told(HALF + "odds 1;").were(1, 6, 2, 0), 35000);
    }

    private static BonusLadder calm1() {
        return Due.told("class 0 0 0 0 0;loss 1 1;chances 1;odds 12;own 1;");
    }

    private static void oddsFor() {
        // a loss of 12 that is paid: 1000 for each of the odds
        String ladder = "class 0 0 0 0 0;loss 12 1;chances 1;odds 5;own 12;";
        BonusLadder x = Due.told(ladder);
        for (int odds = 0; odds <= 12; odds++) {
            due.is("48: just as much", x.oddsFor(1000L * odds, 1, 0), odds);
            due.is("48: one more", x.oddsFor(1000L * odds + 1, 1, 0), odds == 12 ? -2 : odds + 1);
        }
        due.keeps("48: nothing happens", () -> Due.told(ladder), y -> y.oddsFor(3500, 1, 0), 4);
        due.is("48: below 0", x.oddsFor(-1, 1, 0), 0);
        due.is("48: far below 0", x.oddsFor(Long.MIN_VALUE, 1, 0), 0);
        due.is("48: far above", x.oddsFor(Long.MAX_VALUE, 1, 0), -2);
        due.is("48: above an int", x.oddsFor(1L << 32, 20, 0), -2);
        // more odds may cost less: a loss told leads to the cheap class
        BonusLadder down = Due.told("class 90 0 1 1 9;class 0 1 1 1 9;loss 1 1;chances 1;odds 12;own 0;");
        due.is("48: the least of several", down.oddsFor(90000, 2, 0), 0);
        due.is("48: by odds 0 it is most", down.oddsFor(180000, 2, 0), 0);
        due.is("48: by none", down.oddsFor(180001, 2, 0), -2);
    }

    private static void bestOwn() {
        // told for own: a year costs 1000 for each of it
        String ladder = "class 0 0 0 0 0;loss 999 1;chances 1;odds 12;own 5;";
        BonusLadder x = Due.told(ladder);
        due.is("49: a thousandth too little", x.bestOwn(999, 1, 0), 0);
        due.is("49: alike: the least", x.bestOwn(1000, 1, 0), 0);
        due.is("49: a thousandth more", x.bestOwn(1001, 1, 0), 99);
        due.is("49: for each of 20 years, alike", x.bestOwn(1000, 20, 0), 0);
        due.is("49: for each of 20 years, more", x.bestOwn(1001, 20, 0), 99);
        due.is("49: for each of 20 years, less", x.bestOwn(999, 20, 0), 0);
        due.is("49: no years", x.bestOwn(9999, 0, 0), 0);
        due.is("49: the greatest price", x.bestOwn(9999, 20, 0), 99);
        due.keeps("49: nothing happens", () -> Due.told(ladder), y -> y.bestOwn(1001, 20, 0), 99);
        // a loss of 50 is all that can be paid, so behind 50 each more is a gain: alike at no price
        BonusLadder y = Due.told("class 0 0 0 0 0;loss 50 1;chances 1;odds 12;own 5;");
        due.is("49: no price", y.bestOwn(0, 1, 0), 0);
        due.is("49: half", y.bestOwn(505, 1, 0), 0);
        due.is("49: 99 times 506 are above 50000", y.bestOwn(506, 1, 0), 99);
        // with the last chance cut: 83 and a third for each; less 84 for each: 98 and 99 are alike
        BonusLadder z = Due.told("class 0 0 0 0 99;loss 999 1;chances 1;odds 1;");
        due.is("49: of several the least", z.bestOwn(84, 1, 0), 98);
        // two chances of a sixth each, cut: own 1 costs 332, one less than 333; 2 to 99 cost 333 for each or more
        due.is("49: the least but none", Due.told("class 0 0 0 0 0;loss 999 1;chances 2;odds 2;").bestOwn(333, 1, 0), 1);
    }

    private static void dearest() {
        // a guard saves p, the sure loss being told, or the loss, if that is less
        for (int p : new int[] {1, 2, 50, 99, 100, 101, 999}) {
            Due.Make make = () -> Due.told("class 0 0 1 1 7;class " + p + " 1 1 1 0;loss 999 1;chances 1;odds 12;own 0;");
            due.keeps("52: a fee less than " + p, make, x -> x.dearest(2, 0), Math.min(99, p - 1));
            due.is("52: the last year", make.make().dearest(1, 0), -2);
            due.is("52: where nothing is lost", make.make().dearest(20, 1), -2);
            due.is("52: no years", make.make().dearest(0, 0), NONE);
        }
        BonusLadder none = Due.told("class 0 0 1 1 7;class 9 1 1 1 0;loss 999 1;chances 1;odds 0;own 0;");
        due.is("52: none, since nothing comes", none.dearest(20, 0), -2);
        // 11 of 12 ways of 1: less than 1, but above 0
        BonusLadder part = Due.told("class 0 0 1 1 7;class 1 1 1 1 0;loss 999 1;chances 1;odds 11;own 0;");
        due.is("52: a fee of 0", part.dearest(2, 0), 0);
        // the fee is another one in the years behind, too: with 3 to go a guard of 99 each year, or 200 once
        BonusLadder years = Due.told("class 0 0 1 1 7;class 100 1 1 1 0;loss 999 1;chances 1;odds 12;own 0;");
        due.is("52: with 3 years", years.dearest(3, 0), 99);
        // behind a year without one that counts a guard for nothing keeps all, so two years of 20 are saved
        BonusLadder behind = Due.told("class 0 2 1 1 7;class 20 1 1 1 9;class 0 2 1 1 0;loss 999 1;chances 1;odds 12;own 0;");
        due.is("52: with guards of other classes", behind.dearest(3, 0), 39);
    }

    /** Where NONE and -2 could both be told, it is NONE. */
    private static void noneAheadOfNotAny() {
        Due.Make far = () -> Due.told("class 0 0 1 1 99;class 999 1 1 1 99;loss 1 1;chances 1;odds 0;own 9;");
        due.is("26: -2 else", far.make().least(20, 0, 0, 0, false), -2);
        due.keeps("26: k too great", far, x -> x.least(20, 0, 1, 0, false), NONE);
        due.keeps("26: t too great", far, x -> x.least(20, 0, 0, 3, false), NONE);
        due.keeps("26: l too great", far, x -> x.least(21, 0, 0, 0, false), NONE);
        due.keeps("29: no such sort", CostEdgeTest::calm, x -> x.patience(0, 5), NONE);
        due.keeps("37: no such class", far, x -> x.years(2, 0), NONE);
        due.keeps("43: l too great", far, x -> x.rebate(21, 1, 0), NONE);
        due.keeps("48: l too great", far, x -> x.oddsFor(Long.MAX_VALUE, 21, 0), NONE);
        due.keeps("48: no such class", far, x -> x.oddsFor(Long.MAX_VALUE, 1, 2), NONE);
        due.keeps("52: no years", far, x -> x.dearest(0, 1), NONE);
    }
}
