/** The edges of what is spelled, reported and counted (promises 53, 54, 55), each sentence by itself. */
public final class WrittenEdgeTest {
    private static final int NONE = BonusLadder.NONE;

    private static final String MOST = "class 999 7 7 7 99;".repeat(8) + "loss 999 9;".repeat(5) + "chances 3;odds 12;own 99;";
    private static final String LEAST = "class 0 0 0 0 0;loss 1 1;chances 1;odds 0;own 0;";
    /** By odds 0: to tell in class 0 with L years to go costs L less 1. */
    private static final String CALM = "class 0 0 1 1 9;class 1 1 1 1 9;loss 19 1;chances 1;odds 0;own 0;";
    /** To tell the sure loss costs 50 with two years to go, or the fee. */
    private static final String GUARD = "class 0 0 1 1 49;class 50 1 1 1 0;loss 500 1;chances 1;odds 12;own 0;";
    /** To tell with 11 years to go costs 9990 and own. */
    private static final String FAR = "class 0 0 1 1 99;class 999 1 1 1 99;loss 1 1;chances 1;odds 0;own 8;";

    private static final Due due = new Due();

    private WrittenEdgeTest() {
    }

    public static void main(String[] args) {
        spelled();
        bytes();
        reported();
        reportedBytes();
        counted();
        due.covers(53, 54, 55);
        due.end("WrittenEdgeTest");
    }

    private static void spelled() {
        String[] texts = {MOST, LEAST, CALM, GUARD, FAR,
            "class 9 0 1 0 9;class 10 1 1 1 10;class 99 0 0 2 99;class 100 3 3 3 0;loss 9 1;loss 10 2;loss 99 3;loss 100 4;"
                + "chances 2;odds 9;own 10;",
            "class 5 0 0 0 5;loss 5 5;chances 2;odds 10;own 9;"};
        for (String text : texts) {
            due.is("53: as it was told", Due.spelled(Due.told(text)), text);
            due.is("53: how many bytes", Due.told(text).spell(NONE), text.length());
            BonusLadder again = Due.told(Due.spelled(Due.told(text)));
            due.is("53: it is a text", Due.spelled(again), text);
        }
        due.is("53: nothing told", Due.spelled(new BonusLadder()), "chances 2;odds 3;own 0;");
        due.is("53: in this order", Due.spelled(Due.told("own 1;odds 2;loss 3 4;chances 3;class 5 0 0 0 6;loss 7 8;\n")),
                "class 5 0 0 0 6;loss 3 4;loss 7 8;chances 3;odds 2;own 1;");
        BonusLadder x = Due.told(LEAST);
        x.set(0, 0, 999);
        x.sort(0, 0, 100);
        x.rule(2, 10);
        x.come(10, 9);
        due.is("53: what acts changed", Due.spelled(x), "class 999 0 0 0 0;loss 100 1;loss 10 9;chances 1;odds 0;own 10;");
        x.drop(0);
        due.is("53: what went", Due.spelled(x), "class 999 0 0 0 0;loss 10 9;chances 1;odds 0;own 10;");
        x.undo();
        x.undo();
        x.undo();
        x.undo();
        x.undo();
        due.is("53: what was undone", Due.spelled(x), LEAST);
        BonusLadder noText = new BonusLadder();
        noText.rule(1, 12);
        due.is("53: odds without a text", Due.spelled(noText), "chances 2;odds 12;own 0;");
    }

    private static void bytes() {
        for (String text : new String[] {MOST, LEAST}) {
            Due.Make make = () -> Due.told(text);
            int length = text.length();
            due.keeps("53: how many bytes", make, x -> x.spell(NONE), length);
            due.keeps("53: the first", make, x -> x.spell(0), 'c');
            due.keeps("53: the last", make, x -> x.spell(length - 1), ';');
            due.keeps("53: behind the last", make, x -> x.spell(length), -2);
            due.keeps("53: far behind", make, x -> x.spell(Integer.MAX_VALUE), -2);
            due.keeps("53: below NONE", make, x -> x.spell(-2), NONE);
            due.keeps("53: far below NONE", make, x -> x.spell(Integer.MIN_VALUE), NONE);
        }
    }

    private static void reported() {
        for (int l = 1; l <= 20; l++) {
            due.is("54: with years " + l, Due.reported(Due.told(CALM), l), "class 0 least " + l + ";class 1 least 1;");
        }
        due.is("54: a guard is bought", Due.reported(Due.told(GUARD), 2), "class 0 guard least 1;class 1 least 1;");
        due.is("54: in the last year none is", Due.reported(Due.told(GUARD), 1), "class 0 least 1;class 1 least 1;");
        BonusLadder alike = Due.told(GUARD);
        alike.set(0, 4, 50);
        due.is("54: nor if both are alike", Due.reported(alike, 2), "class 0 least 51;class 1 least 1;");
        alike.rule(2, 7);
        due.is("54: above the own part", Due.reported(alike, 2), "class 0 least 58;class 1 least 8;");
        due.is("54: the greatest", Due.reported(Due.told(FAR), 11), "class 0 least 9999;class 1 least 9;");
        BonusLadder beyond = Due.told(FAR);
        beyond.rule(2, 9);
        due.is("54: none", Due.reported(beyond, 11), "class 0 none;class 1 least 10;");
        due.is("54: a year less", Due.reported(beyond, 10), "class 0 least 9001;class 1 least 10;");
        due.is("54: the only class", Due.reported(Due.told(LEAST), 20), "class 0 least 1;");
        due.is("54: eight classes", Due.reported(Due.told(MOST), 20), "class 0 least 100;class 1 least 100;"
                + "class 2 least 100;class 3 least 100;class 4 least 100;class 5 least 100;class 6 least 100;"
                + "class 7 least 100;");
        // with the guard that is bought the first of two sure losses goes by, but the second one does not then
        BonusLadder two = Due.told("class 0 0 1 1 5;class 90 1 1 1 0;loss 30 1;chances 2;odds 12;own 0;");
        due.is("54: with that guard", Due.reported(two, 2), "class 0 guard least 31;class 1 least 1;");
        long apart = two.ahead(2, 0, 1, 0, false) - two.ahead(2, 0, 1, 0, true);
        due.is("25: what the guard saves yet", apart, 30000);
        Due.Make inYear = () -> {
            BonusLadder x = Due.told(GUARD);
            x.begin(true);
            x.loss(0, true);
            return x;
        };
        due.keeps("54: nothing happens", inYear, x -> x.report(2, NONE), 38);
    }

    private static void reportedBytes() {
        Due.Make make = () -> Due.told(CALM);
        for (int l : new int[] {1, 9, 10, 20}) {
            int length = l < 10 ? 32 : 33;
            due.keeps("54: how many bytes", make, x -> x.report(l, NONE), length);
            due.keeps("54: the first", make, x -> x.report(l, 0), 'c');
            due.keeps("54: the last", make, x -> x.report(l, length - 1), ';');
            due.keeps("54: behind the last", make, x -> x.report(l, length), -2);
            due.keeps("54: far behind", make, x -> x.report(l, Integer.MAX_VALUE), -2);
            due.keeps("54: below NONE", make, x -> x.report(l, -2), NONE);
            due.keeps("54: far below NONE", make, x -> x.report(l, Integer.MIN_VALUE), NONE);
        }
        for (int l : new int[] {0, -1, 21, Integer.MIN_VALUE, Integer.MAX_VALUE}) {
            due.keeps("54: years " + l, make, x -> x.report(l, 0), NONE);
            due.keeps("54: years " + l + ", how many bytes", make, x -> x.report(l, NONE), NONE);
            due.keeps("54: NONE ahead of -2", make, x -> x.report(l, 1000), NONE);
        }
        due.keeps("54: no classes", BonusLadder::new, x -> x.report(1, NONE), NONE);
        due.keeps("54: no classes, NONE ahead of -2", BonusLadder::new, x -> x.report(1, 1000), NONE);
    }

    private static void counted() {
        int[] least = {1, 1, 1, 0, 0, 0, 0, 1, 0, 0};
        int[] most = {8, 5, 3, 12, 99, 12, 400, 45, 16, 16};
        BonusLadder x = Due.told(LEAST);
        BonusLadder y = Due.told(MOST);
        for (int n = 0; n < 6; n++) {
            y.live(20, 2, 0, n);
            y.anew();
            y.live(20, 2, 0, n);
        }
        Due.feed(y, " ".repeat(400));
        for (int what = 0; what < 10; what++) {
            due.is("55: the least, " + what, x.count(what), least[what]);
            due.is("55: the most, " + what, y.count(what), most[what]);
        }
        due.is("55: below 0", x.count(-1), NONE);
        due.is("55: 10", x.count(10), NONE);
        x.begin(false);
        due.is("55: acts", x.count(5), 1);
        due.is("55: the ledger while a year is on", x.count(9), 0);
        x.loss(0, false);
        due.is("55: the book", x.count(8), 1);
        due.is("55: the ledger", x.count(9), 1);
        x.undo();
        due.is("55: undone", x.count(5) * 100 + x.count(8) * 10 + x.count(9), 100);
        x.feed(0, 0, 0, 0, 0);
        x.back(1);
        due.is("55: the tape", x.count(6), 19);
        due.is("55: feeding is no act", x.count(5), 1);
    }
}
