/**
 * What is asked leaves no trace: each answer is the same behind any other call that asks, and behind an act it is the one
 * that the act asks for, whatever was asked ahead of it. WERE: nothing happens.
 */
public final class TraceTest {
    private static final String LADDER = "class 40 1 2 3 9;class 30 2 0 3 4;class 20 2 1 0 3;class 90 0 3 3 2;"
            + "loss 5 3;loss 40 1;loss 150 2;chances 2;odds 5;own 3;";
    private static final String OTHER = "class 7 1 0 0 2;class 3 1 0 0 1;loss 12 2;loss 2 3;odds 7;";

    private static final Due.Call[] ASKED = {x -> x.of(0, 0), x -> x.ofSort(0, 2), x -> x.life(12), x -> x.book(0, 1),
        x -> x.ledger(0, 1), x -> x.mean(false), x -> x.cost(0, 1), x -> x.cost(1, 1), x -> x.cost(6, 1),
        x -> x.guards(3, 0), x -> x.ahead(4, 0, 0, 0, true), x -> x.ahead(4, 1, 1, 1, false),
        x -> x.ahead(2, 0, 2, 2, false), x -> x.least(5, 0, 0, 0, false), x -> x.least(3, 1, 1, 1, true),
        x -> x.tells(3, 0, 0, 0, false), x -> x.tells(6, 1, 0, 0, true), x -> x.gain(4, 0, 0, 0, false, 0),
        x -> x.gain(2, 1, 1, 2, true, 1), x -> x.patience(0, 0), x -> x.patience(1, 1), x -> x.worst(0, 0),
        x -> x.worst(3, 1), x -> x.bare(0, 0), x -> x.bare(4, 1), x -> x.by(0, 0, 3, 0), x -> x.by(1, 0, 3, 0),
        x -> x.by(2, 0, 3, 0), x -> x.by(3, 5, 3, 0), x -> x.by(3, 40, 3, 0), x -> x.bestLimit(3, 0),
        x -> x.worth(3, 0, 1), x -> x.cheapest(4), x -> x.reach(1), x -> x.years(0, 1), x -> x.ways(1),
        x -> x.moves(0, 1), x -> x.spread(3, 0, 1), x -> x.spread(0, 1, 1), x -> x.shared(0, 0, 0),
        x -> x.shared(0, 1, 1), x -> x.shared(1, 1, 0), x -> x.shared(2, 0, 1), x -> x.shared(3, 1, 1),
        x -> x.joined(3, 0, 1, 0), x -> x.joined(2, 1, 0, 25), x -> x.rebate(3, 0, 1), x -> x.advice(3, 0),
        x -> x.advice(1, 1), x -> x.rest(1), x -> x.were(0, 3, 3, 0), x -> x.were(1, 12, 3, 0), x -> x.were(2, 50, 3, 1),
        x -> x.lacking(0, 3, 0), x -> x.lacking(1, 3, 0), x -> x.oddsFor(130000, 3, 0), x -> x.bestOwn(200, 3, 0),
        x -> x.would(6, 0, 0, 11, 0), x -> x.would(3, 1, 0, 11, 1), x -> x.would(3, 2, 0, 11, 2),
        x -> x.would(4, 3, 20, 11, 3), x -> x.bestRule(5, 3), x -> x.dearest(3, 0), x -> x.dearest(2, 1),
        x -> x.spell(-1), x -> x.spell(8), x -> x.report(3, -1), x -> x.report(5, 22), x -> x.count(7)};

    private static final Due.Call[] ACTS = {x -> x.set(0, 0, 77), x -> x.set(1, 1, 0), x -> x.set(0, 2, 1),
        x -> x.set(0, 3, 0), x -> x.set(0, 4, 1), x -> x.sort(0, 0, 99), x -> x.sort(1, 1, 9), x -> x.rule(0, 3),
        x -> x.rule(1, 11), x -> x.rule(2, 20), x -> x.begin(true), x -> x.begin(false) + x.quiet(),
        x -> x.begin(false) + x.loss(1, true), x -> x.live(3, 0, 0, 5), x -> x.come(60, 7), x -> x.drop(0),
        x -> x.move(1), x -> x.anew(), x -> x.undo(), x -> x.rule(1, 9) + x.undo(), TraceTest::tellOther,
        TraceTest::tellFault};

    private static final Due due = new Due();

    private TraceTest() {
    }

    public static void main(String[] args) {
        for (int b = 0; b < ASKED.length; b++) {
            long alone = ASKED[b].on(make());
            for (int a = 0; a < ASKED.length; a++) {
                BonusLadder x = make();
                ASKED[a].on(x);
                due.is("call " + b + " behind call " + a, ASKED[b].on(x), alone);
            }
            due.keeps("call " + b, TraceTest::make, ASKED[b], alone);
        }
        for (int act = 0; act < ACTS.length; act++) {
            BonusLadder x = make();
            for (Due.Call asked : ASKED) {
                asked.on(x);
            }
            BonusLadder y = make();
            due.is("act " + act, ACTS[act].on(x), ACTS[act].on(y));
            for (int b = 0; b < ASKED.length; b++) {
                due.is("call " + b + " behind act " + act, ASKED[b].on(x), ASKED[b].on(y));
            }
            due.is("state behind act " + act, Due.state(x), Due.state(y));
        }
        due.end("TraceTest");
    }

    /** In class 0 behind some years, with an act that can be undone. */
    private static BonusLadder make() {
        BonusLadder x = Due.told(LADDER);
        x.live(4, 1, 0, 9);
        x.move(2);
        x.rule(1, 6);
        return x;
    }

    private static long tellOther(BonusLadder x) {
        Due.feed(x, OTHER);
        return x.text();
    }

    private static long tellFault(BonusLadder x) {
        Due.feed(x, "own 9;" + OTHER + "?");
        return x.text();
    }
}
