/** The edges of promises 1 to 4 and of what the document says of a TEXT, each sentence by itself. */
public final class TextEdgeTest {
    private static final int NONE = BonusLadder.NONE;
    private static final String LADDER = "class 1 0 0 0 0;loss 1 1;";
    private static final String AT_FIRST = "chances 2;odds 3;own 0;";
    private static final String EIGHT = "class 1 0 0 0 0;".repeat(7);

    private static final Due due = new Due();

    private TextEdgeTest() {
    }

    public static void main(String[] args) {
        atFirst();
        needsClass();
        feed();
        back();
        places();
        signs();
        words();
        numbers();
        classesThatThereAre();
        tooMany();
        tooEarly();
        behindTheEnd();
        firstFault();
        latestHolds();
        allAnew();
        faultLeavesAll();
        due.covers(1, 2, 3, 4);
        due.end("TextEdgeTest");
    }

    /** What text() answers if the FAULT is there. */
    private static int fault(int at) {
        return -4 - at;
    }

    private static void reads(String what, String text, String spelled) {
        BonusLadder x = new BonusLadder();
        Due.feed(x, text);
        due.holds("4: " + what + " is read", x.text() > 0);
        due.is("4: " + what + " is told", Due.spelled(x), spelled);
    }

    private static void faulty(String what, String text, int at) {
        due.is("4: " + what + " [" + text + "]", Due.reading(text), fault(at));
    }

    // ---- 1

    private static void atFirst() {
        BonusLadder x = new BonusLadder();
        int[] counts = {0, 0, 2, 3, 0, 0, 0, 0, 0, 0};
        for (int what = 0; what < counts.length; what++) {
            due.is("1: count " + what, x.count(what), counts[what]);
        }
        int[] life = {NONE, 0, 0, 0, 0, 0, 0, 0, 0, 0, 0, 0, 0};
        for (int what = 0; what < life.length; what++) {
            due.is("1: life " + what, x.life(what), life[what]);
        }
        due.is("1: spelled", Due.spelled(x), AT_FIRST);
        due.is("1: no book", x.book(0, 0), NONE);
        due.is("1: no ledger", x.ledger(0, 0), NONE);
        due.is("1: no mean", x.mean(true), NONE);
        due.is("1: nothing can be undone", x.undo(), NONE);
    }

    /** Without a TEXT read there are no CLASSES, no SORTS; what needs a CLASS is NONE then, also where -2 could be told. */
    private static void needsClass() {
        Due.Call[] none = {x -> x.set(0, 0, 1), x -> x.sort(0, 0, 1), x -> x.begin(false), x -> x.begin(true),
            x -> x.quiet(), x -> x.loss(0, true), x -> x.live(1, 1, 0, 0), x -> x.come(1, 1), x -> x.drop(0),
            x -> x.move(0), x -> x.move(1), x -> x.undo(), x -> x.of(0, 0), x -> x.ofSort(0, 0), x -> x.life(0),
            x -> x.book(0, 0), x -> x.ledger(0, 0), x -> x.mean(false), x -> x.cost(0, 0), x -> x.cost(1, 0),
            x -> x.guards(0, 0), x -> x.ahead(1, 0, 0, 0, false), x -> x.least(1, 0, 0, 0, false),
            x -> x.tells(1, 0, 0, 0, true), x -> x.patience(0, 0), x -> x.worst(0, 0), x -> x.bare(0, 0),
            x -> x.by(1, 0, 0, 0), x -> x.bestLimit(0, 0), x -> x.cheapest(0), x -> x.reach(0), x -> x.years(0, 0),
            x -> x.ways(0), x -> x.moves(0, 0), x -> x.spread(0, 0, 0), x -> x.shared(0, 0, 0),
            x -> x.joined(0, 0, 0, 0), x -> x.rebate(0, 0, 0), x -> x.advice(1, 0), x -> x.rest(0),
            x -> x.were(1, 1, 0, 0), x -> x.lacking(0, 0, 0), x -> x.oddsFor(1, 0, 0), x -> x.bestOwn(0, 0, 0),
            x -> x.would(1, 1, 0, 0, 0), x -> x.bestRule(1, 0), x -> x.dearest(1, 0), x -> x.report(1, NONE),
            x -> x.report(1, 0), x -> x.report(1, 1000)};
        for (int i = 0; i < none.length; i++) {
            due.keeps("1: without a text, call " + i, BonusLadder::new, none[i], NONE);
        }
        due.keeps("1: gain without a text", BonusLadder::new, x -> x.gain(1, 0, 0, 0, false, 0), Long.MIN_VALUE);
        due.keeps("1: worth without a text", BonusLadder::new, x -> x.worth(1, 0, 0), Long.MIN_VALUE);
        due.acts("1: odds without a text", BonusLadder::new, x -> x.rule(1, 4), 3);
        due.acts("1: anew without a text", BonusLadder::new, BonusLadder::anew, 0);
        BonusLadder x = new BonusLadder();
        Due.feed(x, "loss 1 1;");
        x.text();
        due.is("1: behind a fault there are none yet", x.ofSort(0, 0), NONE);
    }

    // ---- 2, 3

    private static void feed() {
        for (int byteAt = 0; byteAt < 20; byteAt++) {
            for (int sign : new int[] {'x', 0, 127, 128, 255}) {
                int[] words = {0x20202020, 0x20202020, 0x20202020, 0x20202020, 0x20202020};
                int shift = 24 - byteAt % 4 * 8;
                words[byteAt / 4] = words[byteAt / 4] & ~(255 << shift) | sign << shift;
                BonusLadder x = new BonusLadder();
                due.is("2: feed", x.feed(words[0], words[1], words[2], words[3], words[4]), 20);
                due.is("2: the highest byte of a first, byte " + byteAt + " is " + sign, x.text(), fault(byteAt));
            }
        }
        BonusLadder x = new BonusLadder();
        for (int n = 1; n <= 20; n++) {
            due.is("2: how many it has", x.feed(0, 0, 0, 0, 0), 20 * n);
        }
        due.is("2: 400 and 20", x.feed(0, 0, 0, 0, 0), NONE);
        due.is("2: 400 stay", x.count(6), 400);
        x.back(19);
        due.is("2: 381 and 20", x.feed(0, 0, 0, 0, 0), NONE);
        due.is("2: 381 stay", x.count(6), 381);
        x.back(1);
        due.is("2: 380 and 20", x.feed(0, 0, 0, 0, 0), 400);
        BonusLadder full = new BonusLadder();
        Due.feed(full, LADDER + " ".repeat(400 - LADDER.length()));
        due.is("2: refused when full", full.feed(0, 0, 0, 0, 0), NONE);
        due.is("2: nothing came", full.text(), 1);
        due.is("2: nothing can come behind it then either", full.feed(0, 0, 0, 0, 0), 20);
        due.keeps("2: refused", () -> tape(LADDER + " ".repeat(375)), y -> y.feed(1, 2, 3, 4, 5), NONE);
    }

    private static BonusLadder tape(String text) {
        BonusLadder x = Due.told(LADDER);
        Due.feed(x, text);
        return x;
    }

    private static void back() {
        due.keeps("3: none of none", BonusLadder::new, x -> x.back(0), 0);
        due.keeps("3: one of none", BonusLadder::new, x -> x.back(1), NONE);
        due.keeps("3: below 0 of none", BonusLadder::new, x -> x.back(-1), NONE);
        due.keeps("3: none of some", () -> tape("abc"), x -> x.back(0), 3);
        due.keeps("3: one more than it has", () -> tape("abc"), x -> x.back(4), NONE);
        due.keeps("3: far more than it has", () -> tape("abc"), x -> x.back(Integer.MAX_VALUE), NONE);
        due.keeps("3: below 0", () -> tape("abc"), x -> x.back(-1), NONE);
        due.keeps("3: far below 0", () -> tape("abc"), x -> x.back(Integer.MIN_VALUE), NONE);
        due.is("3: all", tape("abc").back(3), 0);
        due.is("3: all of 400", tape("x".repeat(400)).back(400), 0);
        due.is("3: more than 400", tape("x".repeat(400)).back(401), NONE);
        BonusLadder x = tape(LADDER + "xyz");
        due.is("3: the last ones go", x.back(3), LADDER.length());
        due.is("3: what is left is read", x.text(), 1);
        BonusLadder joined = tape("class 1 0 0 0 0;loss 1 xxx");
        joined.back(3);
        Due.feed(joined, "1;");
        due.is("3: what comes then comes behind what is left", joined.text(), 1);
    }

    // ---- 4

    /** A fault is told at each place of a tape, the last one of a full tape too. */
    private static void places() {
        for (int at = 0; at < 400; at += 21) {
            faulty("a sign among blanks", " ".repeat(at) + "?" + " ".repeat(399 - at), at);
        }
        faulty("the last byte of 400", " ".repeat(399) + "?", 399);
        faulty("400 blanks", " ".repeat(400), 400);
        reads("a full tape", LADDER + "\n".repeat(375), LADDER + AT_FIRST);
        reads("the end at the last byte", LADDER.substring(0, 24) + " ".repeat(375) + ";", LADDER + AT_FIRST);
    }

    /** Each byte that there is, at each kind of place. */
    private static void signs() {
        for (int sign = 0; sign < 256; sign++) {
            char c = (char) sign;
            boolean blank = c == ' ' || c == '\n';
            boolean digit = c >= '0' && c <= '9';
            boolean letter = c >= 'a' && c <= 'z';
            String name = "4: byte " + sign + " ";
            due.is(name + "ahead of a word", Due.reading("own 1;" + c + LADDER), blank ? 1 : fault(6));
            due.is(name + "behind a word", Due.reading("own" + c + "1;" + LADDER),
                    blank ? 1 : fault(letter ? 0 : 3));
            due.is(name + "as a number", Due.reading("own " + c + ";" + LADDER), digit ? 1 : fault(blank ? 5 : 4));
            due.is(name + "behind a number", Due.reading("own 1" + c + ";" + LADDER),
                    digit || blank ? 1 : fault(c == ';' ? 6 : 5));
            due.is(name + "between two numbers", Due.reading("class 1 0 0 0 0;loss 1" + c + "1;"),
                    blank ? 1 : fault(digit ? 24 : 22));
            due.is(name + "as an end", Due.reading(LADDER + "own 1 " + c), c == ';' ? 1 : fault(blank ? 32 : 31));
            due.is(name + "at the end of all", Due.reading(LADDER + c), blank ? 1 : fault(25));
        }
        reads("no blank that is not needed", "class 9 0 0 0 9;loss 9 9;own 9;", "class 9 0 0 0 9;loss 9 9;chances 2;odds 3;own 9;");
        reads("blanks and line ends where one likes",
                "\n class\n \n9  0\n0 0\n\n9 \n;\n\nloss  9\n9\n; \n", "class 9 0 0 0 9;loss 9 9;" + AT_FIRST);
    }

    private static void words() {
        String[] known = {"class", "loss", "chances", "odds", "own"};
        for (String word : known) {
            faulty("a letter too few", word.substring(0, word.length() - 1) + " 1 0 0 0 0;", 0);
            faulty("a letter too many", word + "s 1 0 0 0 0;", 0);
            faulty("another first letter", "x" + word.substring(1) + " 1 0 0 0 0;", 0);
            faulty("another last letter", word.substring(0, word.length() - 1) + "x 1 0 0 0 0;", 0);
            faulty("a great letter", word.substring(0, 1).toUpperCase() + word.substring(1) + " 1 0 0 0 0;", 0);
            faulty("a great letter at the end", word.substring(0, word.length() - 1) + "Z 1 0 0 0 0;", 0);
            faulty("a word cut in two", word.substring(0, 2) + " " + word.substring(2) + " 1 0 0 0 0;", 0);
            faulty("a word and a number without a blank", word + "1 0 0 0 0;", word.length());
            faulty("a word and an end", word + ";", word.length());
            faulty("a word and another one", word + " " + word + ";", word.length() + 1);
            faulty("two words in one", word + word + ";", 0);
        }
        faulty("no word, but a number", "1 0 0 0 0;", 0);
        faulty("no word, but an end", ";", 0);
        faulty("an end twice", LADDER + "own 1;;", 31);
        faulty("a number too few", "class 1 0 0 0;", 13);
        faulty("a number too many", "class 1 0 0 0 0 0;", 16);
        faulty("a number too few of a loss", "loss 1;", 6);
        faulty("a number too many of a loss", "loss 1 1 1;", 9);
        faulty("no number of chances", "chances ;", 8);
        faulty("two numbers of chances", "chances 1 1;", 10);
        faulty("two numbers of odds", "odds 1 1;", 7);
        faulty("two numbers of own", "own 1 1;", 6);
        faulty("a word in place of an end", "own 1 own 1;", 6);
        faulty("a word glued to a number", "own 1own 1;", 5);
    }

    private static void numbers() {
        String[] head = {"class ", "class 1 ", "class 1 0 ", "class 1 0 0 ", "class 1 0 0 0 "};
        String[] tail = {" 0 0 0 0;", " 0 0 0;", " 0 0;", " 0;", ";"};
        int[] high = {999, 7, 7, 7, 99};
        for (int i = 0; i < 5; i++) {
            String rest = tail[i] + EIGHT + "loss 1 1;";
            number("class part " + i, head[i], rest, 0, high[i], 8);
        }
        number("size", "class 1 0 0 0 0;loss ", " 1;", 1, 999, 1);
        number("weight", "class 1 0 0 0 0;loss 1 ", ";", 1, 9, 1);
        number("chances", LADDER + "chances ", ";", 1, 3, 1);
        number("odds", LADDER + "odds ", ";", 0, 12, 1);
        number("own", LADDER + "own ", ";", 0, 99, 1);
        reads("the least of all", "class 0 0 0 0 0;loss 1 1;chances 1;odds 0;own 0;",
                "class 0 0 0 0 0;loss 1 1;chances 1;odds 0;own 0;");
        String most = "class 999 7 7 7 99;".repeat(8) + "loss 999 9;".repeat(5) + "chances 3;odds 12;own 99;";
        reads("the most of all", most, most);
        reads("0s ahead", "class 009 000 00 0 09;loss 001 009;chances 003;odds 012;own 099;",
                "class 9 0 0 0 9;loss 1 9;chances 3;odds 12;own 99;");
    }

    /** One number: its bounds, 0s ahead, too many digits. */
    private static void number(String what, String head, String tail, int low, int high, int classes) {
        int at = head.length();
        due.is("4: least " + what, Due.reading(head + low + tail), classes);
        due.is("4: greatest " + what, Due.reading(head + high + tail), classes);
        due.is("4: 0s ahead of " + what, Due.reading(head + "00" + low + tail), classes);
        due.is("4: 0s alone as " + what, Due.reading(head + "000" + tail), low == 0 ? classes : fault(at));
        due.is("4: three digits of " + what, Due.reading(head + String.format("%03d", high) + tail), classes);
        due.is("4: four digits of " + what, Due.reading(head + String.format("%04d", high) + tail), fault(at));
        due.is("4: many digits of " + what, Due.reading(head + "0".repeat(50) + high + tail), fault(at));
        due.is("4: so many that they wrap around " + what, Due.reading(head + "4294967297" + tail), fault(at));
        due.is("4: one above " + what, Due.reading(head + (high + 1) + tail), fault(at));
        if (low > 0) {
            due.is("4: one below " + what, Due.reading(head + (low - 1) + tail), fault(at));
        }
        due.is("4: a sign ahead of " + what, Due.reading(head + "-1" + tail), fault(at));
        due.is("4: none such at the text's end, " + what, Due.reading(head + "1000"), fault(at));
    }

    /** FREE, ONE, TWO of some CLASS is none that there is: the TEXT's length. */
    private static void classesThatThereAre() {
        for (int classes = 1; classes <= 8; classes++) {
            for (int wrong = 0; wrong < classes; wrong++) {
                for (int part = 1; part <= 3; part++) {
                    int last = classes - 1;
                    String good = ladder(classes, wrong, part, last);
                    due.is("4: the last class that there is", Due.reading(good), classes);
                    if (classes < 8) {
                        String bad = ladder(classes, wrong, part, classes);
                        due.is("4: the first that there is not", Due.reading(bad), fault(bad.length()));
                        due.is("4: blanks behind it", Due.reading(bad + " \n"), fault(bad.length() + 2));
                        due.is("4: a class that comes later", Due.reading(bad + "class 1 0 0 0 0;"), classes + 1);
                    }
                }
            }
        }
    }

    private static String ladder(int classes, int chosen, int part, int to) {
        StringBuilder b = new StringBuilder("loss 1 1;");
        for (int c = 0; c < classes; c++) {
            b.append("class 1");
            for (int p = 1; p <= 3; p++) {
                b.append(' ').append(c == chosen && p == part ? to : 0);
            }
            b.append(" 0;");
        }
        return b.toString();
    }

    private static void tooMany() {
        String eight = "class 1 0 0 0 0;".repeat(8);
        String five = "loss 1 1;".repeat(5);
        due.is("4: eight classes", Due.reading(eight + "loss 1 1;"), 8);
        faulty("a ninth class", eight + "loss 1 1;class 1 0 0 0 0;", 137);
        faulty("a ninth class, at its word", eight + "  class", 130);
        faulty("a ninth class with a fault of its own", eight + "class x", 128);
        due.is("4: five sorts", Due.reading("class 1 0 0 0 0;" + five), 1);
        faulty("a sixth sort", five + "class 1 0 0 0 0;loss 1 1;", 61);
        faulty("a sixth sort, at its word", five + "\nloss", 46);
        faulty("a sixth sort with a fault of its own", five + "loss 0 0;", 45);
        due.is("4: eight and five", Due.reading(eight + five), 8);
        due.is("4: the others as often as one likes", Due.reading(LADDER + "own 1;".repeat(30)), 1);
    }

    /** At each place at which a text may end too early. */
    private static void tooEarly() {
        faulty("empty", "", 0);
        faulty("a blank", " ", 1);
        String[] early = {"class", "class ", "class 1", "class 1 ", "class 1 0 0 0 0", "class 1 0 0 0 0 ",
            LADDER + "loss", LADDER + "loss 1", LADDER + "loss 1 ", LADDER + "loss 1 1", LADDER + "own",
            LADDER + "own ", LADDER + "own 5", LADDER + "own 5\n", LADDER + "odds 1", LADDER + "chances 1"};
        for (String text : early) {
            faulty("too early", text, text.length());
        }
        String[] lacking = {"class 1 0 0 0 0;", "loss 1 1;", "own 1;", "class 1 0 0 0 0;own 1; ", "loss 1 1;odds 1;\n"};
        for (String text : lacking) {
            faulty("no classes or no sorts", text, text.length());
        }
        faulty("a word cut off at the end is no word", LADDER + "ow", 25);
    }

    /** Bytes that went back are not read, and nothing is read behind the last byte of a full tape. */
    private static void behindTheEnd() {
        String whole = LADDER + "own 12 ;";
        for (int length = LADDER.length(); length < whole.length(); length++) {
            BonusLadder x = new BonusLadder();
            Due.feed(x, whole);
            x.back(whole.length() - length);
            int inWord = length > 25 && length < 28 ? fault(25) : fault(length);
            due.is("4: " + length + " bytes", x.text(), length == 25 ? 1 : inWord);
        }
        String[] ends = {"own", "own ", "own 1", "own 1 ", "loss 1", "loss 1 1", "class 1 0 0 0 0", "\n"};
        for (String end : ends) {
            String text = LADDER + " ".repeat(375 - end.length()) + end;
            due.is("4: a full tape that ends with " + end, Due.reading(text), end.equals("\n") ? 1 : fault(400));
        }
        due.is("4: a full tape that ends in a word", Due.reading(LADDER + " ".repeat(373) + "ow"), fault(398));
        due.is("4: a full tape that ends in a number", Due.reading(LADDER + " ".repeat(367) + "own 1000"), fault(396));
        due.is("4: a full tape of letters", Due.reading("c".repeat(400)), fault(0));
        due.is("4: a full tape of digits", Due.reading("own " + "1".repeat(396)), fault(4));
    }

    /** Of several faults the first one is told. */
    private static void firstFault() {
        faulty("out of bounds ahead of an unknown word", "own 100;x", 4);
        faulty("an unknown word ahead of one out of bounds", "x 100;", 0);
        faulty("out of bounds ahead of too early an end", "loss 0", 5);
        faulty("a class that there is not, then a sign", "class 1 7 0 0 0;loss 1 1;?", 25);
        faulty("the first number out of bounds of two", "loss 0 0;", 5);
        faulty("no blank ahead of a number out of bounds", "own100;", 3);
    }

    /** Of like ones of chances, odds, own the latest holds. */
    private static void latestHolds() {
        reads("chances twice", LADDER + "chances 1;chances 3;", LADDER + "chances 3;odds 3;own 0;");
        reads("odds twice", LADDER + "odds 12;odds 0;", LADDER + "chances 2;odds 0;own 0;");
        reads("own twice", LADDER + "own 99;own 1;", LADDER + "chances 2;odds 3;own 1;");
        reads("own thrice, about others", "own 9;" + LADDER + "own 8;odds 1;own 7;", LADDER + "chances 2;odds 1;own 7;");
        reads("like classes and sorts are all there", LADDER + LADDER,
                "class 1 0 0 0 0;class 1 0 0 0 0;loss 1 1;loss 1 1;" + AT_FIRST);
    }

    private static BonusLadder lived() {
        BonusLadder x = Due.told("class 30 1 0 0 4;class 20 2 0 0 3;class 10 2 1 0 2;loss 5 3;loss 40 1;"
                + "chances 3;odds 5;own 1;");
        x.live(5, 1, 0, 7);
        x.rule(2, 3);
        x.begin(true);
        x.loss(1, true);
        return x;
    }

    private static void allAnew() {
        BonusLadder x = lived();
        due.holds("4: a cost is known", x.cost(5, 0) > 0);
        Due.feed(x, LADDER);
        due.is("4: how many classes", x.text(), 1);
        due.is("4: the tape is empty", x.count(6), 0);
        BonusLadder y = Due.told(LADDER);
        due.is("4: all anew", Due.state(x), Due.state(y));
        due.is("4: costs too", x.cost(5, 0), 5000);
        due.is("4: acts are forgotten", x.undo(), NONE);
        due.is("4: the life is in class 0", x.life(0), 0);
        due.is("4: a year can begin", x.begin(false), 1);
    }

    private static void faultLeavesAll() {
        String[] bad = {"", "x", "class 1 0 0 0 0;", "class 1 0 0 0 0;loss 1 1;own 5;odds 0;chances 1;?",
            "class 9 7 7 7 9;loss 9 9;", "own 7"};
        for (String text : bad) {
            BonusLadder x = lived();
            long cost = x.cost(5, 0);
            Due.feed(x, text);
            due.holds("4: a fault", x.text() <= -4);
            due.is("4: the tape is empty behind a fault", x.count(6), 0);
            due.is("4: all else stays, costs", x.cost(5, 0), cost);
            due.is("4: all else stays", Due.state(x), Due.state(lived()));
        }
        BonusLadder x = lived();
        Due.feed(x, "x");
        x.text();
        due.is("4: acts can be undone yet", x.undo(), 3);
        due.is("4: an empty tape is read again", x.text(), fault(0));
        Due.feed(x, LADDER);
        due.is("4: a good one behind a fault", x.text(), 1);
    }
}
