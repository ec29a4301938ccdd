/** What the tests share: telling a text byte by byte, and counting answers that are not due. */
final class Due {
    /** Makes an object anew, each time alike. */
    interface Make {
        BonusLadder make();
    }

    /** A call on an object. */
    interface Call {
        long on(BonusLadder x);
    }

    /** A call on an object with one argument that is tried. */
    interface Trial {
        long on(BonusLadder x, int tried);
    }

    private final boolean[] tested = new boolean[100];
    private int wrong;

    /** A call's answer, told with what it belongs to. */
    void is(String call, long got, long want) {
        mark(call);
        if (got != want) {
            wrong++;
            System.out.println(call + " answered " + got + ", due is " + want);
        }
    }

    void is(String call, String got, String want) {
        mark(call);
        if (!got.equals(want)) {
            wrong++;
            System.out.println(call + " answered " + got + ", due is " + want);
        }
    }

    void holds(String what, boolean good) {
        is(what, good ? 1 : 0, 1);
    }

    /** A call that is refused or merely asks: its answer, and that nothing has changed. */
    void keeps(String call, Make make, Call called, long want) {
        BonusLadder x = make.make();
        is(call, called.on(x), want);
        is(call + ", what is left", state(x), state(make.make()));
    }

    /** An act: its answer, that it is one that can be undone, and that undone it leaves nothing. */
    void acts(String call, Make make, Call called, long want) {
        BonusLadder x = make.make();
        int before = x.count(5);
        is(call, called.on(x), want);
        is(call + ", acts", x.count(5), Math.min(12, before + 1));
        is(call + ", undo", x.undo(), Math.min(11, before));
        is(call + ", undone", happened(x), happened(make.make()));
    }

    /** The last values that are allowed, the first that are not, and those farthest off. */
    void within(String call, Make make, int low, int high, long none, Trial tried) {
        holds(call + " " + low + " is allowed", tried.on(make.make(), low) != none);
        holds(call + " " + high + " is allowed", tried.on(make.make(), high) != none);
        for (int v : new int[] {low - 1, high + 1, Integer.MIN_VALUE, Integer.MAX_VALUE}) {
            keeps(call + " " + v + " is refused", make, x -> tried.on(x, v), none);
        }
    }

    /** That there was a check for each of these promises; a check begins with the promise's number and a colon. */
    void covers(int... promises) {
        for (int promise : promises) {
            holds("promise " + promise + " has a check", tested[promise]);
        }
    }

    private void mark(String call) {
        int colon = call.indexOf(':');
        if (colon > 0 && colon < 3) {
            tested[Integer.parseInt(call.substring(0, colon))] = true;
        }
    }

    /** Ends the test: with 1 if an answer was not due. */
    void end(String name) {
        System.out.println(name + (wrong == 0 ? ": all answers are as due" : ": " + wrong + " answers are not as due"));
        System.exit(wrong == 0 ? 0 : 1);
    }

    /** Feeds a text, without the blanks that fill the last call. */
    static void feed(BonusLadder x, String text) {
        StringBuilder padded = new StringBuilder(text);
        while (padded.length() % 20 != 0) {
            padded.append(' ');
        }
        for (int at = 0; at < padded.length(); at += 20) {
            x.feed(word(padded, at), word(padded, at + 4), word(padded, at + 8), word(padded, at + 12),
                    word(padded, at + 16));
        }
        x.back(padded.length() - text.length());
    }

    private static int word(StringBuilder bytes, int at) {
        return bytes.charAt(at) << 24 | bytes.charAt(at + 1) << 16 | bytes.charAt(at + 2) << 8 | bytes.charAt(at + 3);
    }

    /** A new object that has read a text. */
    static BonusLadder told(String text) {
        BonusLadder x = new BonusLadder();
        feed(x, text);
        x.text();
        return x;
    }

    /** What text() answers to a text on a new object. */
    static int reading(String text) {
        BonusLadder x = new BonusLadder();
        feed(x, text);
        return x.text();
    }

    static String spelled(BonusLadder x) {
        StringBuilder b = new StringBuilder();
        int length = x.spell(BonusLadder.NONE);
        for (int i = 0; i < length; i++) {
            b.append((char) x.spell(i));
        }
        return b.toString();
    }

    static String reported(BonusLadder x, int l) {
        StringBuilder b = new StringBuilder();
        int length = x.report(l, BonusLadder.NONE);
        for (int i = 0; i < length; i++) {
            b.append((char) x.report(l, i));
        }
        return b.toString();
    }

    /** All of the state that can be asked for; it takes some 350 calls at most, of the 512 that are promised. */
    static String state(BonusLadder x) {
        return happened(x) + " acts " + x.count(5) + " tape " + x.count(6);
    }

    /** All of the state that can be asked for, but for the tape and how many acts can be undone. */
    static String happened(BonusLadder x) {
        StringBuilder b = new StringBuilder(spelled(x)).append(" life");
        for (int what = 0; what <= 12; what++) {
            b.append(' ').append(x.life(what));
        }
        for (int k = 0; k <= 16; k++) {
            for (int what = 0; what <= 2; what++) {
                b.append(' ').append(x.book(k, what)).append(' ').append(x.ledger(k, what));
            }
        }
        return b.append(' ').append(x.count(8)).append(' ').append(x.count(9)).toString();
    }
}
