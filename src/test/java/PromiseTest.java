/** Each promise of the document by its number: ordinary inputs, edges, wrong inputs; the answers are reckoned by hand. */
public final class PromiseTest {
    private static final int NONE = BonusLadder.NONE;
    private static final long NO_NUMBER = Long.MIN_VALUE;
    private static final int MIN = Integer.MIN_VALUE;
    private static final int MAX = Integer.MAX_VALUE;

    /** One chance a year, even odds, two classes. */
    private static final String TWO_STEPS =
            "class 100 1 0 0 5;class 50 1 0 0 5;loss 30 1;loss 200 1;chances 1;odds 6;own 0;";
    /** Two chances a year, three classes. A year to go costs the premium and 500. */
    private static final String THREE_STEPS =
            "class 30 1 0 0 4;class 20 2 0 0 3;class 10 2 1 0 2;loss 5 3;loss 40 1;chances 2;odds 3;own 1;";
    /** A loss comes each year; the upper class costs nothing. */
    private static final String SURE_LOSS = "class 100 1 0 0 0;class 0 1 0 0 0;loss 1 1;chances 1;odds 12;own 0;";
    /** Two rounds that are closed by FREE: 0, 1, 1 and 2, 3, 2. */
    private static final String ROUNDS =
            "class 9 1 0 0 0;class 8 1 0 0 0;class 7 3 1 2 0;class 6 2 3 3 0;loss 1 1;chances 2;odds 3;own 0;";
    /** To tell in class 0 is to pay 999 for ever. */
    private static final String CLIFF = "class 0 0 1 1 99;class 999 1 1 1 99;loss 1 1;chances 1;odds 1;own 0;";

    private static final Due due = new Due();

    private PromiseTest() {
    }

    public static void main(String[] args) {
        told();
        texts();
        changes();
        lives();
        draws();
        undone();
        asked();
        costs();
        choices();
        rules();
        classes();
        odds();
        twoCars();
        were();
        written();
        due.end("PromiseTest");
    }

    private static void told() {
        BonusLadder x = new BonusLadder();
        for (int what = 0; what <= 9; what++) {
            due.is("1: count " + what, x.count(what), what == 2 ? 2 : what == 3 ? 3 : 0);
        }
        due.is("1: no class", x.of(0, 0), NONE);
        due.is("1: no sort", x.ofSort(0, 0), NONE);
        for (int n = 1; n <= 20; n++) {
            due.is("2: feed", x.feed(1, 2, 3, 4, 5), 20 * n);
        }
        due.is("2: feed beyond 400", x.feed(1, 2, 3, 4, 5), NONE);
        due.is("2: nothing came", x.count(6), 400);
        due.is("3: back", x.back(1), 399);
        due.is("2: feed, one too many", x.feed(0, 0, 0, 0, 0), NONE);
        due.is("3: back 0", x.back(0), 399);
        due.is("3: back too many", x.back(400), NONE);
        due.is("3: back below 0", x.back(-1), NONE);
        due.is("3: back far below 0", x.back(MIN), NONE);
        due.is("3: back far too many", x.back(MAX), NONE);
        due.is("3: nothing went", x.back(379), 20);
        due.is("2: feed again", x.feed(0, 0, 0, 0, 0), 40);
        due.is("3: back all", x.back(40), 0);
    }

    private static void texts() {
        String ladder = "class 1 0 0 0 0;loss 1 1;";
        due.is("4: a text", Due.reading(ladder), 1);
        due.is("4: as it was told", Due.spelled(Due.told(TWO_STEPS)), TWO_STEPS);
        due.is("4: as at first", Due.spelled(Due.told(ladder)), ladder + "chances 2;odds 3;own 0;");
        due.is("4: blanks, line ends, 0s ahead, any order",
                Due.spelled(Due.told(" \nown 007\n; loss\n999 9 ;class 000 00 0 000 099 ;\n odds 0 ; ")),
                "class 0 0 0 0 99;loss 999 9;chances 2;odds 0;own 7;");
        due.is("4: the latest holds", Due.spelled(Due.told("own 3;own 4;odds 1;" + ladder + "odds 2;chances 1;chances 3;")),
                ladder + "chances 3;odds 2;own 4;");
        due.is("4: empty", Due.reading(""), -4);
        due.is("4: blanks alone", Due.reading("  \n"), -7);
        due.is("4: no classes", Due.reading("loss 1 1;"), -13);
        due.is("4: no sorts", Due.reading("class 1 0 0 0 0;"), -20);
        due.is("4: ends too early", Due.reading("class 1 0 0 0 0;loss 1 "), -27);
        due.is("4: ends behind a word", Due.reading("class"), -9);
        due.is("4: a word unknown", Due.reading("classes 1 0 0 0 0;"), -4);
        due.is("4: a word cut off", Due.reading(" cla"), -5);
        due.is("4: great letters", Due.reading("Class 1 0 0 0 0;"), -4);
        due.is("4: another blank", Due.reading("class\t1 0 0 0 0;"), -9);
        due.is("4: a byte above 127", Due.reading((char) 233 + ladder), -4);
        due.is("4: word and number glued", Due.reading("class1 0 0 0 0;"), -9);
        due.is("4: number and word glued", Due.reading("own 1own"), -9);
        due.is("4: one number too many", Due.reading("own 1 1;"), -10);
        due.is("4: one number too few", Due.reading("loss 1;"), -10);
        due.is("4: a lone end", Due.reading(ladder + ";"), -29);
        due.is("4: four digits", Due.reading("class 0001 0 0 0 0;"), -10);
        due.is("4: out of bounds", Due.reading("own 100;"), -8);
        due.is("4: odds out of bounds", Due.reading("odds 13;"), -9);
        due.is("4: no chances", Due.reading("chances 0;"), -12);
        due.is("4: size 0", Due.reading("loss 0 1;"), -9);
        due.is("4: weight 10", Due.reading("loss 1 10;"), -11);
        due.is("4: class 8", Due.reading("class 1 0 0 8 0;"), -16);
        due.is("4: fee 100", Due.reading("class 1 0 0 0 100;"), -18);
        due.is("4: a class that there is not", Due.reading("class 1 0 0 7 0;loss 1 1;"), -29);
        due.is("4: eight classes", Due.reading("class 1 7 0 0 0;".repeat(8) + "loss 1 1;"), 8);
        due.is("4: a ninth class", Due.reading("class 1 7 0 0 0;".repeat(8) + "class"), -4 - 128);
        due.is("4: five sorts", Due.reading("class 1 0 0 0 0;" + "loss 1 1;".repeat(5)), 1);
        due.is("4: a sixth sort", Due.reading("class 1 0 0 0 0;" + "loss 1 1;".repeat(5) + "loss x"), -4 - 61);
        faultLeavesAll();
    }

    private static void faultLeavesAll() {
        BonusLadder x = Due.told(THREE_STEPS);
        due.is("4: the tape is empty", x.count(6), 0);
        x.begin(true);
        x.loss(0, true);
        String before = Due.state(x);
        Due.feed(x, "own 5;class 1 0 0 0 0");
        due.is("4: a fault", x.text(), -25);
        due.is("4: the tape is empty behind a fault", x.count(6), 0);
        due.is("4: all else stays", Due.state(x), before);
        due.is("4: acts stay", x.count(5), 2);
        Due.feed(x, "class 1 0 0 0 0;loss 1 1;");
        due.is("4: anew", x.text(), 1);
        due.is("4: acts are forgotten", x.undo(), NONE);
        due.is("4: rules as at first", x.count(4), 0);
        due.is("4: no year is on", x.life(1), 0);
        due.is("4: nothing is paid", x.life(12), 0);
        due.is("4: no book", x.count(8), 0);
    }

    private static void changes() {
        BonusLadder x = Due.told(THREE_STEPS);
        due.is("5: premium", x.set(2, 0, 999), 10);
        due.is("5: premium too high", x.set(2, 0, 1000), NONE);
        due.is("5: free", x.set(2, 1, 0), 2);
        due.is("5: one", x.set(2, 2, 2), 1);
        due.is("5: two", x.set(2, 3, 1), 0);
        due.is("5: two, no such class", x.set(2, 3, 3), NONE);
        due.is("5: free below 0", x.set(2, 1, -1), NONE);
        due.is("5: fee", x.set(2, 4, 99), 2);
        due.is("5: fee too high", x.set(2, 4, 100), NONE);
        due.is("5: it is so", x.set(2, 4, 99), NONE);
        due.is("5: no such class", x.set(3, 0, 1), NONE);
        due.is("5: class below 0", x.set(-1, 0, 1), NONE);
        due.is("5: no such what", x.set(0, 5, 1), NONE);
        due.is("5: what below 0", x.set(0, -1, 1), NONE);
        due.is("5: all are kept", Due.spelled(x).substring(34, 53), "class 999 0 2 1 99;");
        due.is("6: size", x.sort(1, 0, 999), 40);
        due.is("6: weight", x.sort(1, 1, 9), 1);
        due.is("6: weights then", x.count(7), 12);
        due.is("6: size too high", x.sort(1, 0, 1000), NONE);
        due.is("6: size 0", x.sort(1, 0, 0), NONE);
        due.is("6: weight too high", x.sort(1, 1, 10), NONE);
        due.is("6: weight 0", x.sort(1, 1, 0), NONE);
        due.is("6: it is so", x.sort(1, 1, 9), NONE);
        due.is("6: no such sort", x.sort(2, 0, 1), NONE);
        due.is("6: sort below 0", x.sort(-1, 0, 1), NONE);
        due.is("6: no such what", x.sort(0, 2, 1), NONE);
        due.is("7: chances", x.rule(0, 3), 2);
        due.is("7: odds", x.rule(1, 12), 3);
        due.is("7: own", x.rule(2, 99), 1);
        due.is("7: no chances", x.rule(0, 0), NONE);
        due.is("7: chances too many", x.rule(0, 4), NONE);
        due.is("7: odds too high", x.rule(1, 13), NONE);
        due.is("7: odds below 0", x.rule(1, -1), NONE);
        due.is("7: own too high", x.rule(2, 100), NONE);
        due.is("7: it is so", x.rule(2, 99), NONE);
        due.is("7: no such what", x.rule(3, 1), NONE);
        due.is("7: what below 0", x.rule(-1, 1), NONE);
        x.begin(false);
        due.is("7: chances while a year is on", x.rule(0, 1), NONE);
        due.is("7: odds while a year is on", x.rule(1, 0), 12);
        due.is("7: own while a year is on", x.rule(2, 0), 99);
        comesAndGoes();
    }

    private static void comesAndGoes() {
        BonusLadder x = Due.told(THREE_STEPS);
        due.is("12: come", x.come(7, 2), 2);
        due.is("12: its size", x.ofSort(2, 0), 7);
        due.is("12: its weight", x.ofSort(2, 1), 2);
        due.is("12: size 0", x.come(0, 1), NONE);
        due.is("12: size too high", x.come(1000, 1), NONE);
        due.is("12: weight 0", x.come(1, 0), NONE);
        due.is("12: weight too high", x.come(1, 10), NONE);
        due.is("12: come", x.come(999, 9), 3);
        due.is("12: come", x.come(1, 1), 4);
        due.is("12: there are 5", x.come(1, 1), NONE);
        due.is("12: no classes", new BonusLadder().come(1, 1), NONE);
        x.begin(false);
        x.loss(4, true);
        due.is("13: drop", x.drop(1), 4);
        due.is("13: numbers above are one less", x.ofSort(1, 0), 7);
        due.is("13: the last one too", x.ofSort(3, 1), 1);
        due.is("13: none is left there", x.ofSort(4, 0), NONE);
        due.is("13: the book stays", x.book(0, 1), 4);
        due.is("13: no such sort", x.drop(4), NONE);
        due.is("13: below 0", x.drop(-1), NONE);
        due.is("13: drop", x.drop(3), 3);
        due.is("13: drop", x.drop(0), 2);
        due.is("13: drop", x.drop(0), 1);
        due.is("13: the only one", x.drop(0), NONE);
        due.is("13: what is left", x.ofSort(0, 0), 999);
    }

    private static void lives() {
        BonusLadder x = Due.told(THREE_STEPS);
        due.is("9: no year is on", x.quiet(), NONE);
        due.is("10: no year is on", x.loss(0, true), NONE);
        due.is("14: move", x.move(2), 0);
        due.is("14: it is so", x.move(2), NONE);
        due.is("14: no such class", x.move(3), NONE);
        due.is("14: below 0", x.move(-1), NONE);
        due.is("8: begin with a guard", x.begin(true), 12);
        due.is("8: one is on", x.begin(true), NONE);
        due.is("14: a year is on", x.move(0), NONE);
        due.is("19: on", x.life(1), 1);
        due.is("19: the guard is there", x.life(4), 1);
        due.is("10: no such sort", x.loss(2, true), NONE);
        due.is("10: sort below 0", x.loss(-1, true), NONE);
        due.is("10: told", x.loss(1, true), 1);
        due.is("10: the guard let it go by", x.life(3), 0);
        due.is("10: the guard is gone", x.life(4), 0);
        due.is("19: a chance is gone", x.life(2), 1);
        due.is("10: told again", x.loss(0, true), 1);
        due.is("10: the year ended", x.life(1), 0);
        due.is("10: it counted once", x.life(0), 1);
        due.is("8: begin without", x.begin(false), 20);
        due.is("9: quiet", x.quiet(), 1);
        due.is("10: borne", x.loss(1, false), 40);
        due.is("10: borne does not count", x.life(0), 2);
        x.begin(false);
        due.is("10: told, less than the own part", x.rule(2, 9), 1);
        due.is("10: the size then", x.loss(0, true), 5);
        due.is("19: it counts", x.life(3), 1);
        due.is("9: the last chance", x.quiet(), 0);
        long[] life = {1, 0, 0, 0, 0, 3, 40, 2, 7, 40, 3, 1, 89, NONE};
        for (int what = 0; what < life.length; what++) {
            due.is("19: life " + what, x.life(what), life[what]);
        }
        due.is("19: below 0", x.life(-1), NONE);
        long[][] book = {{2, 0, 1}, {1, 1, 0}, {0, 0, 1}, {0, 1, 1}, {NONE, NONE, NONE}};
        long[][] ledger = {{2, 15, 1}, {1, 60, 0}, {2, 14, 1}, {NONE, NONE, NONE}};
        entries(x, book, ledger);
        due.is("22: paid", x.mean(false), 89);
        due.is("22: by years", x.mean(true), 3);
        due.is("15: anew", x.anew(), 3);
        due.is("15: class 0", x.life(0), 0);
        due.is("15: nothing paid", x.life(12), 0);
        due.is("15: no book", x.count(8) + x.count(9), 0);
        due.is("22: none ended", x.mean(false), NONE);
        due.is("22: none ended", x.mean(true), NONE);
        due.is("8: no classes", new BonusLadder().begin(false), NONE);
        allCount();
    }

    private static void entries(BonusLadder x, long[][] book, long[][] ledger) {
        for (int what = 0; what <= 2; what++) {
            for (int k = 0; k < book.length; k++) {
                due.is("20: book " + k + " " + what, x.book(k, what), book[k][what]);
            }
            for (int k = 0; k < ledger.length; k++) {
                due.is("21: ledger " + k + " " + what, x.ledger(k, what), ledger[k][what]);
            }
        }
        due.is("20: no such what", x.book(0, 3), NONE);
        due.is("20: what below 0", x.book(0, -1), NONE);
        due.is("20: below 0", x.book(-1, 0), NONE);
        due.is("21: no such what", x.ledger(0, 3), NONE);
        due.is("21: below 0", x.ledger(-1, 0), NONE);
        due.is("55: entries", x.count(8) * 10 + x.count(9), 43);
    }

    private static void allCount() {
        BonusLadder x = Due.told(THREE_STEPS + "chances 3;");
        x.move(2);
        x.begin(false);
        x.loss(0, true);
        x.loss(0, true);
        due.is("19: two count", x.life(3), 2);
        due.is("15: a year is on", x.anew(), 0);
        due.is("15: none is on then", x.life(1) + x.life(2) + x.life(3), 0);
        x.undo();
        x.loss(0, true);
        due.is("21: three counted", x.ledger(0, 2), 3);
        due.is("10: two or more", x.life(0), 0);
        for (int n = 0; n < 17; n++) {
            x.begin(false);
            x.loss(1, n % 2 == 0);
            x.quiet();
            x.quiet();
        }
        due.is("20: 16 are kept", x.count(8), 16);
        due.is("20: the oldest", x.book(15, 0), 2);
        due.is("20: no seventeenth", x.book(16, 0), NONE);
        due.is("21: 16 are kept", x.count(9), 16);
        due.is("21: the oldest", x.ledger(15, 1), 30 + 40);
        due.is("21: no seventeenth", x.ledger(16, 0), NONE);
        // from class 0 by turns: borne (30 + 40), told (20 + 1), eight times each
        due.is("22: lowest terms", x.mean(false) * 1000 + x.mean(true), 91 * 1000 + 2);
        BonusLadder free = Due.told("class 0 0 0 0 0;loss 1 1;odds 0;");
        free.live(6, 2, 0, 1);
        due.is("22: nothing paid", free.mean(false) * 10 + free.mean(true), 1);
    }

    /** Seed 1, odds 3 of 12, weights 3 and 1: sorts 0 and 1 in the first year; nothing, then sort 0 in the second. */
    private static void draws() {
        String[] name = {"best", "told", "borne", "above 5"};
        long[][] due4 = {{35, 3, 0, 0}, {43, 3, 0, 0}, {70, 0, 3, 2}, {41, 1, 2, 2}};
        for (int rule = 0; rule <= 3; rule++) {
            BonusLadder x = Due.told(THREE_STEPS);
            x.move(2);
            int v = rule == 3 ? 5 : 0;
            for (int what = 0; what <= 3; what++) {
                due.is("50: would, " + name[rule] + " " + what, x.would(2, rule, v, 1, what), due4[rule][what]);
            }
            due.is("50: nothing happened", x.life(12) + x.count(5), 1);
            due.is("51: best rule", x.bestRule(2, 1), 0);
            due.is("11: live, " + name[rule], x.live(2, rule, v, 1), due4[rule][0]);
            due.is("11: all of it", x.life(12), due4[rule][0]);
            due.is("11: told", x.life(10), due4[rule][1]);
            due.is("11: borne", x.life(11), due4[rule][2]);
            due.is("11: the class then", x.life(0), due4[rule][3]);
            due.is("11: one act", x.count(5), 2);
            due.is("11: book", x.book(2, 1) * 100 + x.book(1, 1) * 10 + x.book(0, 1), 10);
        }
        BonusLadder x = Due.told(THREE_STEPS);
        x.move(2);
        x.live(2, 0, 0, 1);
        due.is("11: by the best a guard is bought", x.life(7), 2);
        due.is("11: ledger", x.ledger(1, 1) * 100 + x.ledger(0, 1), 1421);
        int before = x.life(12);
        due.is("11: what these years pay", x.live(1, 2, 0, 0), x.life(12) - before);
        wrongLives(x);
        BonusLadder sure = Due.told(SURE_LOSS);
        sure.move(1);
        due.is("50: a sure loss, told", sure.would(2, 1, 0, 9, 0), 100);
        due.is("50: a sure loss, borne", sure.would(2, 2, 0, 9, 0), 2);
        due.is("50: a sure loss, behind a guard without a fee", sure.would(2, 0, 0, 9, 0), 0);
        // seed 3 brings sorts 1, 1, 0: behind two that count the third, small one is told too
        BonusLadder third = Due.told("class 0 0 1 2 99;class 10 1 1 1 99;class 100 2 2 2 99;loss 50 1;loss 500 1;"
                + "chances 3;odds 12;own 0;");
        due.is("50: behind two that count", third.would(2, 0, 0, 3, 0), 100);
        due.is("50: all three are told", third.would(1, 0, 0, 3, 1), 3);
        // seed -7 brings no loss in two years: the best buys a guard for nothing
        BonusLadder luck = Due.told(THREE_STEPS);
        luck.move(2);
        due.is("50: a guard for nothing", luck.would(2, 0, 0, -7, 0), 22);
        due.is("51: of several the first", luck.bestRule(2, -7), 1);
        luck.move(0);
        due.is("51: all alike", luck.bestRule(1, -7), 0);
    }

    private static void wrongLives(BonusLadder x) {
        int[][] wrong = {{0, 0, 0}, {21, 0, 0}, {1, 4, 0}, {1, -1, 0}, {1, 0, 1}, {1, 1, 1}, {1, 2, 1}, {1, 3, -1},
            {1, 3, 1000}};
        String before = Due.state(x);
        for (int[] w : wrong) {
            due.is("11: out of bounds", x.live(w[0], w[1], w[2], 1), NONE);
            due.is("50: out of bounds", x.would(w[0], w[1], w[2], 1, 0), NONE);
        }
        due.is("50: no such what", x.would(1, 0, 0, 1, 4), NONE);
        due.is("50: what below 0", x.would(1, 0, 0, 1, -1), NONE);
        due.is("51: no years", x.bestRule(0, 1), NONE);
        due.is("51: too many years", x.bestRule(21, 1), NONE);
        due.is("11: nothing happened", Due.state(x), before);
        due.holds("11: 20 years, limit 999", x.live(20, 3, 999, 1) > 0);
        x.anew();
        x.move(2);
        x.begin(false);
        x.loss(0, true);
        due.is("11: a year is on", x.live(1, 0, 0, 0), NONE);
        due.is("50: though a year is on", x.would(2, 1, 0, 1, 0), 43);
        due.is("51: though a year is on", x.bestRule(2, 1), 0);
        due.is("50: the year stays on", x.life(2), 1);
        due.is("11: no classes", new BonusLadder().live(1, 0, 0, 0), NONE);
        due.is("50: no classes", new BonusLadder().would(1, 0, 0, 0, 0), NONE);
        due.is("51: no classes", new BonusLadder().bestRule(1, 0), NONE);
    }

    private static int act(BonusLadder x, int which) {
        switch (which) {
            case 0: return x.set(1, 4, 77);
            case 1: return x.sort(0, 1, 8);
            case 2: return x.rule(1, 5);
            case 3: return x.begin(true);
            case 4: return x.loss(0, true);
            case 5: return x.loss(1, false);
            case 6: return x.move(2);
            case 7: return x.live(20, 1, 0, 3);
            case 8: return x.come(3, 3);
            case 9: return x.drop(0);
            case 10: return x.begin(false);
            case 11: return x.quiet();
            case 12: return x.quiet();
            default: return x.anew();
        }
    }

    /** What the acts above change; few calls, since an object is promised for 512. */
    private static String brief(BonusLadder x) {
        return x.spell(NONE) + " " + x.of(1, 4) + " " + x.ofSort(0, 1) + " " + x.count(1) + " " + x.count(3) + " "
                + x.life(12) + " " + x.life(0) + " " + x.life(2) + " " + x.life(4) + " " + x.book(0, 0) + " "
                + x.book(15, 0) + " " + x.ledger(15, 1) + " " + x.mean(false);
    }

    private static void undone() {
        BonusLadder x = Due.told(THREE_STEPS);
        due.is("16: none can", x.undo(), NONE);
        String[] before = new String[14];
        long[] cost = new long[14];
        for (int which = 0; which < 14; which++) {
            before[which] = brief(x);
            cost[which] = x.cost(5, 1);
            due.holds("16: an act", act(x, which) != NONE);
            due.is("16: acts", x.count(5), Math.min(12, which + 1));
            x.set(9, 9, 9);
            x.loss(9, true);
        }
        due.is("16: what is refused is no act", x.count(5), 12);
        for (int which = 13; which >= 2; which--) {
            due.is("16: undo", x.undo(), which - 2);
            due.is("16: as it was ahead of act " + which, brief(x), before[which]);
            due.is("16: costs as they were", x.cost(5, 1), cost[which]);
        }
        due.is("16: the latest 12 alone", x.undo(), NONE);
        due.is("16: nothing happened", x.of(1, 4), 77);
        Due.feed(x, "abc");
        x.rule(2, 50);
        x.undo();
        due.is("16: the tape is no act's", x.count(6), 3);
    }

    private static void asked() {
        BonusLadder x = Due.told(THREE_STEPS);
        long[] parts = {10, 2, 1, 0, 2, NONE};
        for (int what = 0; what < parts.length; what++) {
            due.is("17: of " + what, x.of(2, what), parts[what]);
        }
        due.is("17: below 0", x.of(2, -1), NONE);
        due.is("17: no such class", x.of(3, 0), NONE);
        due.is("17: class below 0", x.of(-1, 0), NONE);
        long[] sort = {5, 3, 9, NONE};
        for (int what = 0; what < sort.length; what++) {
            due.is("18: of sort " + what, x.ofSort(0, what), sort[what]);
        }
        due.is("18: below 0", x.ofSort(0, -1), NONE);
        due.is("18: no such sort", x.ofSort(2, 0), NONE);
        due.is("18: sort below 0", x.ofSort(-1, 0), NONE);
        long[] counts = {3, 2, 2, 3, 1, 0, 0, 4, 0, 0, NONE};
        for (int what = 0; what < counts.length; what++) {
            due.is("55: count " + what, x.count(what), counts[what]);
        }
        due.is("55: below 0", x.count(-1), NONE);
        x.feed(0, 0, 0, 0, 0);
        x.begin(false);
        x.loss(0, true);
        x.quiet();
        due.is("55: acts", x.count(5), 3);
        due.is("55: tape", x.count(6), 20);
        due.is("55: book", x.count(8), 1);
        due.is("55: ledger", x.count(9), 1);
    }

    private static void costs() {
        BonusLadder x = Due.told(THREE_STEPS);
        due.is("23: no years", x.cost(0, 0), 0);
        due.is("23: one year", x.cost(1, 0), 30500);
        due.is("23: one year, other class", x.cost(1, 2), 10500);
        due.is("23: two years", x.cost(2, 2), 23343);
        due.is("24: a guard is bought", x.guards(2, 2), 1);
        due.is("24: none", x.guards(1, 2), 0);
        due.is("24: no years", x.guards(0, 2), 0);
        due.is("31: bare", x.bare(2, 2), 23750);
        due.is("31: no years", x.bare(0, 2), 0);
        due.is("30: at worst", x.worst(2, 2), 44000);
        due.is("30: one year", x.worst(1, 0), 32000);
        due.is("30: no years", x.worst(0, 0), 0);
        long[][] wrong = {{-1, 0}, {21, 0}, {1, -1}, {1, 3}, {MIN, 0}, {MAX, 0}, {1, MIN}, {1, MAX}};
        for (long[] w : wrong) {
            int l = (int) w[0];
            int c = (int) w[1];
            due.is("23: out of bounds", x.cost(l, c), NONE);
            due.is("24: out of bounds", x.guards(l, c), NONE);
            due.is("30: out of bounds", x.worst(l, c), NONE);
            due.is("31: out of bounds", x.bare(l, c), NONE);
            due.is("32: out of bounds", x.by(0, 0, l, c), NONE);
            due.is("33: out of bounds", x.bestLimit(l, c), NONE);
            due.is("34: out of bounds", x.worth(l, c, 0), NO_NUMBER);
            due.is("41: out of bounds", x.shared(l, c, 0), NONE);
            due.is("42: out of bounds", x.joined(l, c, 0, 0), NONE);
            due.is("43: out of bounds", x.rebate(l, c, 0), NONE);
            due.is("46: out of bounds", x.were(1, 1, l, c), NONE);
            due.is("47: out of bounds", x.lacking(0, l, c), NONE);
            due.is("48: out of bounds", x.oddsFor(0, l, c), NONE);
            due.is("49: out of bounds", x.bestOwn(1, l, c), NONE);
            due.is("52: out of bounds", x.dearest(l, c), NONE);
        }
        due.is("23: 20 years", Due.told(CLIFF).cost(20, 1), 20 * 999000);
        x.rule(1, 0);
        due.is("23: by other odds", x.cost(2, 2), 20000);
        due.is("30: by odds 0 just nothing", x.worst(2, 2), 20000);
        BonusLadder odd = Due.told("class 10 1 0 0 0;class 90 1 0 0 0;loss 1 1;chances 1;odds 12;own 0;");
        due.is("30: by odds 12 a sort always", odd.worst(2, 0), 20000);
        odd.rule(1, 11);
        due.is("30: else nothing, if it costs more", odd.worst(2, 0), 100000);
        due.is("23: cut", Due.told(CLIFF).cost(2, 0), 83);
        BonusLadder equal = Due.told("class 5 0 0 0 0;loss 9 1;own 0;");
        due.is("24: bought only if that is less", equal.guards(5, 0), 0);
    }

    private static void choices() {
        BonusLadder x = Due.told(THREE_STEPS);
        due.is("25: a year's beginning", x.ahead(2, 2, 0, 0, false), 13750);
        due.is("25: with a guard", x.ahead(2, 2, 0, 0, true), 11343);
        due.is("25: one gone, guard there yet", x.ahead(2, 2, 1, 0, true), 10750);
        due.is("25: one counts", x.ahead(2, 2, 1, 1, false), 22125);
        due.is("25: two count", x.ahead(2, 2, 1, 2, false), 30750);
        due.is("25: all gone", x.ahead(2, 2, 2, 1, true), 20500);
        due.is("26: least", x.least(2, 2, 0, 0, false), 12);
        due.is("26: with a guard", x.least(2, 2, 0, 0, true), 3);
        due.is("26: nothing to lose", x.least(1, 2, 0, 0, false), 2);
        due.is("26: none", Due.told(CLIFF).least(20, 0, 0, 0, false), -2);
        due.is("26: far up", Due.told(CLIFF).least(11, 0, 0, 0, false), 9990);
        BonusLadder edge = Due.told(CLIFF);
        edge.rule(2, 8);
        due.is("26: the last that there is", edge.least(11, 0, 0, 0, false), 9999);
        edge.rule(2, 9);
        due.is("26: one beyond", edge.least(11, 0, 0, 0, false), -2);
        due.is("27: tells", x.tells(2, 2, 0, 0, false), 2);
        due.is("27: with a guard", x.tells(2, 2, 0, 0, true), 3);
        due.is("28: gain", x.gain(2, 2, 0, 0, false, 0), -6000);
        due.is("28: with a guard", x.gain(2, 2, 0, 0, true, 1), 37625);
        due.is("28: no such sort", x.gain(2, 2, 0, 0, true, 2), NO_NUMBER);
        due.is("28: sort below 0", x.gain(2, 2, 0, 0, true, -1), NO_NUMBER);
        int[][] wrong = {{0, 2, 0, 0}, {21, 2, 0, 0}, {2, 3, 0, 0}, {2, -1, 0, 0}, {2, 2, -1, 0}, {2, 2, 3, 0},
            {2, 2, 0, -1}, {2, 2, 0, 3}, {MIN, 2, 0, 0}, {2, 2, MAX, 0}, {2, 2, 0, MIN}};
        for (int[] w : wrong) {
            due.is("25: out of bounds", x.ahead(w[0], w[1], w[2], w[3], false), NONE);
            due.is("26: out of bounds", x.least(w[0], w[1], w[2], w[3], false), NONE);
            due.is("27: out of bounds", x.tells(w[0], w[1], w[2], w[3], true), NONE);
            due.is("28: out of bounds", x.gain(w[0], w[1], w[2], w[3], true, 0), NO_NUMBER);
        }
        due.is("26: no chance is left", x.least(2, 2, 2, 0, false), NONE);
        due.is("27: no chance is left", x.tells(2, 2, 2, 0, false), NONE);
        due.is("28: no chance is left", x.gain(2, 2, 2, 0, false, 0), NO_NUMBER);
        due.is("29: patience", x.patience(2, 0), 2);
        due.is("29: with none", Due.told(TWO_STEPS).patience(0, 1), -2);
        due.is("29: no such class", x.patience(3, 0), NONE);
        due.is("29: no such sort", x.patience(0, 2), NONE);
        x.rule(2, 5);
        due.is("29: it is borne if both are alike", x.patience(0, 0), 1);
        BonusLadder odd = Due.told("class 90 0 1 1 0;class 10 1 1 1 0;loss 3 1;own 9;");
        due.is("26: to tell is better than nothing", odd.least(2, 0, 0, 0, false), 1);
        due.is("27: it is told though it saves nothing", odd.tells(2, 0, 1, 0, false), 1);
        advised();
    }

    private static void advised() {
        BonusLadder x = Due.told(THREE_STEPS);
        x.move(2);
        due.is("44: no year is on", x.advice(2, 0), NONE);
        x.begin(true);
        due.is("44: by the guard", x.advice(2, 0), 1);
        x.loss(0, true);
        due.is("44: the guard is gone", x.advice(2, 0), 0);
        due.is("44: a great loss", x.advice(2, 1), 1);
        due.is("44: the last year", x.advice(1, 0), 1);
        due.is("44: no years", x.advice(0, 0), NONE);
        due.is("44: too many years", x.advice(21, 0), NONE);
        due.is("44: no such sort", x.advice(2, 2), NONE);
        due.is("44: sort below 0", x.advice(2, -1), NONE);
        x.undo();
        x.undo();
        x.rule(0, 3);
        x.begin(false);
        x.loss(0, true);
        x.loss(0, true);
        due.is("44: behind two all can be told", x.advice(2, 0), 1);
    }

    private static void rules() {
        BonusLadder x = Due.told(THREE_STEPS);
        due.is("32: as bare", x.by(0, 0, 2, 2), 23750);
        due.is("32: all told", x.by(1, 0, 2, 2), 26000);
        due.is("32: all borne", x.by(2, 0, 1, 2), 16874);
        due.is("32: above a limit", x.by(3, 5, 1, 2), 12000);
        due.is("32: just below a size", x.by(3, 4, 1, 2), 10500);
        due.is("32: no size is above it", x.by(3, 40, 1, 2), 16874);
        due.is("32: no years", x.by(1, 0, 0, 2), 0);
        int[][] wrong = {{-1, 0}, {4, 0}, {0, 1}, {1, 1}, {2, -1}, {3, -1}, {3, 1000}};
        for (int[] w : wrong) {
            due.is("32: no such rule", x.by(w[0], w[1], 1, 0), NONE);
        }
        due.is("33: all told", x.bestLimit(1, 2), 0);
        due.is("33: all borne", Due.told(SURE_LOSS).bestLimit(2, 1), 1);
        due.is("33: no years", x.bestLimit(0, 0), 0);
        due.is("33: the small one borne", Due.told(SURE_LOSS + "loss 900 1;loss 2 1;").bestLimit(4, 1), 2);
    }

    private static void classes() {
        BonusLadder x = Due.told(THREE_STEPS);
        due.is("34: worth", x.worth(1, 2, 0), 20000);
        due.is("34: below 0", x.worth(1, 0, 2), -20000);
        due.is("34: the same", x.worth(3, 1, 1), 0);
        due.is("34: no such other", x.worth(1, 0, 3), NO_NUMBER);
        due.is("34: other below 0", x.worth(1, 0, -1), NO_NUMBER);
        due.is("35: cheapest", x.cheapest(1), 2);
        due.is("35: of several the first", x.cheapest(0), 0);
        due.is("35: years below 0", x.cheapest(-1), NONE);
        due.is("35: too many years", x.cheapest(21), NONE);
        due.is("35: no classes", new BonusLadder().cheapest(1), NONE);
        BonusLadder r = Due.told(ROUNDS);
        int[] reach = {3, 3, 15, 15};
        int[] rest = {1, 1, 2, 3};
        int[][] years = {{0, 1, -2, -2}, {-2, 0, -2, -2}, {-2, -2, 0, 1}, {-2, -2, 1, 0}};
        for (int c = 0; c < 4; c++) {
            due.is("36: reach " + c, r.reach(c), reach[c]);
            due.is("45: rest " + c, r.rest(c), rest[c]);
            for (int to = 0; to < 4; to++) {
                due.is("37: years " + c + " " + to, r.years(c, to), years[c][to]);
            }
        }
        due.is("37: two years", x.years(0, 2), 2);
        due.is("45: behind two years", x.rest(0), 2);
        for (int c : new int[] {-1, 4, MIN, MAX}) {
            due.is("36: no such class", r.reach(c), NONE);
            due.is("45: no such class", r.rest(c), NONE);
            due.is("37: no such class", r.years(c, 0), NONE);
            due.is("37: no such other", r.years(0, c), NONE);
            due.is("39: no such class", r.moves(c, 0), NONE);
            due.is("39: no such other", r.moves(0, c), NONE);
            due.is("40: no such class", r.spread(1, c, 0), NONE);
            due.is("40: no such other", r.spread(1, 0, c), NONE);
            due.is("41: no such other", r.shared(1, 0, c), NONE);
            due.is("42: no such other", r.joined(1, 0, c, 0), NONE);
            due.is("43: no such other", r.rebate(1, 0, c), NONE);
        }
    }

    private static void odds() {
        BonusLadder x = Due.told(THREE_STEPS);
        int[] ways = {81, 54, 9, 0, NONE};
        for (int n = 0; n < ways.length; n++) {
            due.is("38: ways " + n, x.ways(n), ways[n]);
        }
        due.is("38: below 0", x.ways(-1), NONE);
        due.is("38: no classes", new BonusLadder().ways(0), NONE);
        int[][] moves = {{63, 81, 0}, {63, 0, 81}, {9, 54, 81}};
        for (int c = 0; c < 3; c++) {
            for (int to = 0; to < 3; to++) {
                due.is("39: moves " + c + " " + to, x.moves(c, to), moves[c][to]);
                due.is("40: one year " + c + " " + to, x.spread(1, c, to), moves[c][to]);
                due.is("40: no year", x.spread(0, c, to), c == to ? 1 : 0);
            }
        }
        due.is("40: two years", x.spread(2, 0, 2), 81 * 81);
        due.is("40: two years, two ways", x.spread(2, 0, 0), 63 * 63 + 81 * 63);
        due.is("40: all ways", x.spread(8, 1, 0) + x.spread(8, 1, 1) + x.spread(8, 1, 2), 184884258895036416L);
        due.is("40: too many", x.spread(9, 1, 0), NONE);
        due.is("40: far too many", x.spread(MAX, 1, 0), NONE);
        due.is("40: below 0", x.spread(-1, 1, 0), NONE);
        x.rule(0, 3);
        int[] threeWays = {729, 729, 243, 27};
        for (int n = 0; n < 4; n++) {
            due.is("38: three chances " + n, x.ways(n), threeWays[n]);
        }
        due.is("39: two or more", x.moves(2, 0), 270);
        due.holds("40: 15 are fine", x.spread(5, 1, 0) > 0);
        due.is("40: 18 are too many", x.spread(6, 1, 0), NONE);
    }

    private static void twoCars() {
        BonusLadder x = Due.told(THREE_STEPS);
        due.is("41: one year", x.shared(1, 0, 1), 51000);
        due.is("41: no years", x.shared(0, 0, 1), 0);
        BonusLadder sure = Due.told(SURE_LOSS + "own 0;");
        sure.sort(0, 0, 60);
        // both losses are told for the car that has little to lose
        due.is("41: told for one car", sure.shared(2, 1, 0), 200000);
        due.is("41: the other way round", sure.shared(2, 0, 1), 200000);
        due.is("31: apart it is dearer", sure.bare(2, 1) + sure.bare(2, 0), 220000);
        sure.sort(0, 0, 30);
        due.is("41: both borne", sure.shared(2, 1, 0), 160000);
        due.is("42: one year", x.joined(1, 1, 1, 0), 41000);
        due.is("42: the greater premium", x.joined(1, 2, 0, 0), 61000);
        due.is("42: a tenth less", x.joined(1, 0, 2, 10), 55000);
        due.is("42: half", x.joined(1, 0, 2, 50), 31000);
        due.is("42: no years", x.joined(0, 0, 2, 50), 0);
        due.is("42: r too great", x.joined(1, 0, 2, 51), NONE);
        due.is("42: r below 0", x.joined(1, 0, 2, -1), NONE);
        BonusLadder like = Due.told("class 10 0 0 0 0;class 10 2 2 2 0;class 90 2 2 2 0;loss 1 1;odds 0;");
        due.is("42: of like ones the first car's", like.joined(2, 0, 1, 0), 40000);
        due.is("42: the other way round", like.joined(2, 1, 0, 0), 200000);
        due.is("43: rebate", Due.told(TWO_STEPS).rebate(1, 0, 1), 26);
        due.is("43: none is enough", Due.told(SURE_LOSS).rebate(1, 0, 1), -2);
        due.is("43: no years", x.rebate(0, 0, 0), -2);
        due.is("43: the first that costs less", like.rebate(1, 0, 0), 1);
        // joined 20 + 180 less r hundredths; apart 10 + 90 and 10 + 10
        due.is("43: two years", like.rebate(2, 1, 0), 41);
        due.is("43: none is needed", like.rebate(2, 0, 1), 0);
    }

    private static void were() {
        BonusLadder x = Due.told(THREE_STEPS);
        due.is("46: chances", x.were(0, 1, 1, 2), 10250);
        due.is("46: odds", x.were(1, 0, 2, 2), 20000);
        due.is("46: own", x.were(2, 2, 1, 2), 11000);
        due.is("46: as it is", x.were(1, 3, 2, 2), 23343);
        due.is("46: nothing happened", Due.spelled(x), THREE_STEPS);
        int[][] wrong = {{0, 0}, {0, 4}, {1, -1}, {1, 13}, {2, -1}, {2, 100}, {3, 1}, {-1, 1}};
        for (int[] w : wrong) {
            due.is("46: out of bounds", x.were(w[0], w[1], 1, 0), NONE);
        }
        x.begin(false);
        due.is("46: chances while a year is on", x.were(0, 1, 1, 2), 10250);
        x.undo();
        due.is("47: lacking", x.lacking(0, 2, 2), 23625);
        due.is("47: the other one", x.lacking(1, 1, 2), 10500);
        due.is("47: no such sort", x.lacking(2, 1, 2), NONE);
        due.is("47: sort below 0", x.lacking(-1, 1, 2), NONE);
        due.is("47: nothing happened", Due.spelled(x), THREE_STEPS);
        due.is("47: the only one", Due.told(SURE_LOSS).lacking(0, 1, 0), NONE);
        long[][] limits = {{10500, 3}, {10501, 4}, {12000, 12}, {12001, -2}, {10000, 0}, {-5, 0},
            {Long.MAX_VALUE, -2}, {Long.MIN_VALUE, 0}};
        for (long[] limit : limits) {
            due.is("48: odds for " + limit[0], x.oddsFor(limit[0], 1, 2), limit[1]);
        }
        due.is("48: no years", x.oddsFor(0, 0, 2) * 10 + x.oddsFor(1, 0, 2), -2);
        due.is("49: all own", x.bestOwn(70, 1, 2), 99);
        due.is("49: none own", x.bestOwn(69, 1, 2), 0);
        due.is("49: at no price", x.bestOwn(0, 1, 2), 0);
        // a year costs own times 83 and a third, cut; less 84 for each: 66 less from 98 on
        due.is("49: of several the least", Due.told("class 0 0 0 0 99;loss 999 1;chances 1;odds 1;").bestOwn(84, 1, 0), 98);
        due.is("49: no years", x.bestOwn(9999, 0, 2), 0);
        due.is("49: price below 0", x.bestOwn(-1, 1, 2), NONE);
        due.is("49: price too high", x.bestOwn(10000, 1, 2), NONE);
        due.is("49: nothing happened", Due.spelled(x), THREE_STEPS);
        due.is("52: dearest", x.dearest(2, 2), 2);
        due.is("52: another", Due.told(TWO_STEPS).dearest(2, 0), 19);
        due.is("52: none", x.dearest(1, 2), -2);
        due.is("52: no years", x.dearest(0, 2), NONE);
        due.is("52: nothing happened", Due.spelled(x), THREE_STEPS);
    }

    private static void written() {
        BonusLadder none = new BonusLadder();
        due.is("53: nothing told", Due.spelled(none), "chances 2;odds 3;own 0;");
        due.is("54: no classes", none.report(1, NONE), NONE);
        BonusLadder x = Due.told(THREE_STEPS);
        due.is("53: spelled", Due.spelled(x), THREE_STEPS);
        due.is("53: length", x.spell(NONE), THREE_STEPS.length());
        due.is("53: not so many", x.spell(THREE_STEPS.length()), -2);
        due.is("53: far off", x.spell(MAX), -2);
        due.is("53: below NONE", x.spell(-2), NONE);
        due.is("53: far below", x.spell(MIN), NONE);
        x.come(100, 9);
        x.rule(2, 10);
        due.is("53: what acts changed", Due.spelled(x), "class 30 1 0 0 4;class 20 2 0 0 3;class 10 2 1 0 2;"
                + "loss 5 3;loss 40 1;loss 100 9;chances 2;odds 3;own 10;");
        x.undo();
        x.undo();
        due.is("54: one year", Due.reported(x, 1), "class 0 least 2;class 1 least 2;class 2 least 2;");
        due.is("54: length", x.report(1, NONE), 48);
        due.is("54: not so many", x.report(1, 48), -2);
        due.is("54: far off", x.report(1, MAX), -2);
        due.is("54: below NONE", x.report(1, -2), NONE);
        due.is("54: no years", x.report(0, 0), NONE);
        due.is("54: too many years", x.report(21, 0), NONE);
        String two = Due.reported(x, 2);
        due.is("54: a guard", two.substring(two.indexOf("class 2")), "class 2 guard least 3;");
        due.is("54: none", Due.reported(Due.told(CLIFF), 20), "class 0 none;class 1 least 1;");
        due.is("54: four digits", Due.reported(Due.told(CLIFF), 11), "class 0 least 9990;class 1 least 1;");
    }
}
