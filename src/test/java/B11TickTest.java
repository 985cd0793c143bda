import java.io.IOException;

/** Promise 11, tick: the sentences that name a boundary case of the clock, FETCHES that FAIL, and HEALTH. */
public final class B11TickTest {
    private static final String TICK = "n TICKS: the clock. IllegalArgumentException: n is not 1 .. 100.";
    private static final String A_TICK = "the clock grows by 1; then node by node, FETCHES that have been out for 10 ticks FAIL, "
        + "by their numbers.";
    private static final String ON_ERROR = "if there is an ENTRY that SUITS it and HAS it, but for FORCED and no-cache, "
        + "whose age is below max-age and stale-if-error together: ANSWERED from it, as STALE (not USED); others: 504. "
        + "(A FETCH of an EDGE gets a FILL 504.)";
    private static final String STRIKE = "a FETCH of an EDGE that is out for 10 ticks is a STRIKE against its PARENT; "
        + "with the second one this EDGE SHUNS it, until the clock is 20 more than now, and has no STRIKES against it";
    private static final String THIRD = "(a third one begins anew; it may be asked all the same, if there is no other one: "
        + "then a second STRIKE SHUNS it from then on)";
    private static final String LIFTED = "A FILL but 504 that comes for a FETCH that is out takes all STRIKES against the PARENT "
        + "from which it came away, and it is SHUNNED no longer.";
    private static final String NO_OTHER = "or to the PARENT of the ring of those PARENTS that are UP and that this EDGE does not SHUN "
        + "(if there are none: of all that are UP)";

    public static void main(String[] args) throws IOException {
        Boundary b = new Boundary(11);
        oneAndHundred(b.of(TICK));
        noneAndMore(b.of(TICK));
        nineAndTen(b.of(A_TICK));
        withinOneCall(b.of(A_TICK));
        byTheirNumbers(b.of(A_TICK));
        nodeByNode(b.of(A_TICK));
        ageOnError(b.of(ON_ERROR));
        forcedOnError(b.of(ON_ERROR));
        blocksOnError(b.of(ON_ERROR));
        markOnError(b.of(ON_ERROR));
        fillOnError(b.of(ON_ERROR));
        oneStrike(b.of(STRIKE));
        twoStrikes(b.of(STRIKE));
        until20More(b.of(STRIKE));
        ofEachEdgeItsOwn(b.of(STRIKE));
        aThirdStrike(b.of(THIRD));
        secondStrikeOfOneShunned(b.of(THIRD));
        everyFillButOne(b.of(LIFTED));
        fill504(b.of(LIFTED));
        fillForAnOldFetch(b.of(LIFTED));
        bothAreShunned(b.of(NO_OTHER));
        theOtherIsDown(b.of(NO_OTHER));
        b.end();
    }

    private static void oneAndHundred(Check c) {
        c.due("1", c.tick(1), 1);
        c.due("100", c.tick(100), 101);
        c.due("the clock", c.x.total(6), 101);
        c.due("99", c.tick(99), 200);
    }

    private static void noneAndMore(Check c) {
        c.ask("GET /1\n\n");
        c.x.tick(9);
        String before = c.state();
        int[] wrong = {0, -1, 101, 1000, Integer.MIN_VALUE, Integer.MAX_VALUE};
        for (int n : wrong) {
            c.due("n " + n, c.tick(n), -2);
        }
        c.due("nothing changed", c.state(), before);
        c.due("one more", c.tick(1), 10);
    }

    private static void nineAndTen(Check c) {
        c.x.tick(4);
        int r = c.ask("GET /1\n\n");
        c.x.tick(9);
        c.due("nine ticks", c.x.answer(r, 0), 0);
        c.due("it is out", c.x.node(5, 6), 1);
        c.x.tick(1);
        c.due("ten ticks", c.answer(r), "[504, 0, 0, 0, 0, 21, 14, 5, 0]");
        c.due("it is out no more, none waits", c.node(5), "[1, 0, 0, 0, 0, 1, 0, 0, 0, 1, 0, 0, 0]");
    }

    private static void withinOneCall(Check c) {
        int a = c.ask("GET /1\n\n");
        c.x.tick(3);
        int b = c.ask("GET /6\n\n");
        c.due("100 ticks", c.tick(100), 103);
        c.due("the first at 10", c.x.answer(a, 6), 10);
        c.due("the second at 13", c.x.answer(b, 6), 13);
        c.due("shunned from 13 on, no more at 103", c.x.node(5, 11), 0);
    }

    private static void byTheirNumbers(Check c) {
        c.ask("GET /1\n\n");
        c.ask("GET /6\n\n");
        c.ask("GET /18\n\n");
        c.x.deliver(2);
        c.x.deliver(0);
        c.x.deliver(0);
        for (int i = 0; i < 3; i++) {
            c.x.lose(0);
        }
        c.x.tick(10);
        c.due("number 1 at the parent: path 18", c.x.message(0, 4), 18);
        c.due("number 2: path 1", c.x.message(1, 4), 1);
        c.due("number 3: path 6", c.x.message(2, 4), 6);
        c.due("no more", c.x.total(0), 3);
    }

    private static void nodeByNode(Check c) {
        c.ask("GET /2\n\n");
        c.ask("GET /1\n\n");
        c.x.deliver(0);
        c.x.deliver(0);
        c.x.lose(0);
        c.x.lose(0);
        c.x.tick(10);
        c.due("node 1 first", c.message(0), "[1, 1, 5, 1, 1, 0, 504, 0, 0, 0, 0, 0]");
        c.due("then node 2", c.message(1), "[1, 2, 6, 1, 2, 0, 504, 0, 0, 0, 0, 0]");
        c.due("the edges in the same tick", c.x.total(3), 2);
    }

    /** What becomes of a request when its fetch fails at the age 10 + ticks. */
    private static String onError(Check c, String control, int ticks, String asked) {
        c.fresh();
        c.put("PUT /1\nlength: 40\ncache-control: " + control + "\n\n");
        c.get("GET /1\nrange: bytes=0-31\n\n");
        if (ticks > 0) {
            c.x.tick(ticks);
        }
        int r = c.ask("GET /1\n" + asked + "\n");
        c.x.lose(0);
        c.x.tick(10);
        return c.x.answer(r, 0) + " " + c.x.answer(r, 4);
    }

    private static void ageOnError(Check c) {
        String part = "range: bytes=0-31\n";
        c.due("12 is below 2 and 11", onError(c, "max-age=2, stale-if-error=11", 2, part), "206 2");
        c.due("12 is not below 2 and 10", onError(c, "max-age=2, stale-if-error=10", 2, part), "504 0");
        c.due("10 is below 0 and 11", onError(c, "stale-if-error=11", 0, part), "206 2");
        c.due("10 is not below 0 and 10", onError(c, "stale-if-error=10", 0, part), "504 0");
        c.due("a thing with no-cache counts 0", onError(c, "max-age=5, no-cache, stale-if-error=10", 0, part), "504 0");
        c.due("10 is below that and 11", onError(c, "max-age=5, no-cache, stale-if-error=11", 0, part), "206 2");
    }

    private static void forcedOnError(Check c) {
        String asked = "range: bytes=0-31\ncache-control: no-cache\n";
        c.due("no-cache", onError(c, "max-age=50", 0, asked), "206 2");
        c.due("not used", c.x.entry(5, 1, 0, 0, 4), 0);
        c.due("no hit", c.x.node(5, 4), 0);
        String fresh = "range: bytes=0-31\ncache-control: max-age=0, min-fresh=9\n";
        c.due("what else it tells does not count", onError(c, "max-age=50", 1, fresh), "206 2");
    }

    private static void blocksOnError(Check c) {
        String told = "max-age=1, stale-if-error=99";
        c.due("both blocks", onError(c, told, 1, "range: bytes=0-31\n"), "206 2");
        c.due("one is missing", onError(c, told, 1, "range: bytes=0-32\n"), "504 0");
        c.due("all are wanted", onError(c, told, 1, ""), "504 0");
        c.due("none is wanted", onError(c, told, 1, "range: bytes=40-\n"), "416 2");
        c.due("not modified", onError(c, told, 1, "range: bytes=0-3\nif-none-match: *\n"), "304 2");
    }

    /** At the parent an ENTRY with a MARK below the FETCH's least one is no help. */
    private static void markOnError(Check c) {
        for (int order = 0; order <= 1; order++) {
            c.fresh();
            c.put("PUT /1\nlength: 20\ncache-control: max-age=1, stale-if-error=99\n\n");
            c.get("GET /1\n\n");
            c.x.fail(5);
            if (order == 1) {
                c.x.purge(0, 9);
            }
            c.x.back(5);
            c.x.tick(1);
            c.ask("GET /1\n\n");
            c.deliverLatest();
            c.x.lose(c.x.total(0) - 1);
            c.x.tick(10);
            c.due("status of the fill with least mark " + order, c.x.message(c.x.total(0) - 1, 6), order == 0 ? 200 : 504);
        }
    }

    private static void fillOnError(Check c) {
        c.ask("GET /1\n\n");
        c.x.tick(1);
        c.x.deliver(0);
        c.x.lose(0);
        c.x.tick(9);
        c.due("the edge's failed", c.x.answer(0, 0), 504);
        c.due("the parent's not yet", c.x.total(0), 0);
        c.x.tick(1);
        c.due("a fill 504", c.message(0), "[1, 1, 5, 1, 1, 0, 504, 0, 0, 0, 0, 0]");
    }

    /** Lets a fetch for this key be out for ten ticks. */
    private static void strike(Check c, String target) {
        c.ask("GET " + target + "\n\n");
        c.x.lose(c.x.total(0) - 1);
        c.x.tick(10);
    }

    private static int asked(Check c, String target) {
        c.ask("GET " + target + "\n\n");
        return c.x.message(c.x.total(0) - 1, 2);
    }

    private static void oneStrike(Check c) {
        c.ask("GET /1\n\n");
        c.x.tick(9);
        c.due("nine ticks: none", c.x.node(5, 9), 0);
        c.x.tick(1);
        c.due("ten ticks: one", c.x.node(5, 9), 1);
        c.due("not shunned", c.x.node(5, 11), 0);
        c.due("none against the other", c.x.node(5, 10) + c.x.node(5, 12), 0);
        c.due("it is asked", asked(c, "/6"), 1);
    }

    private static void twoStrikes(Check c) {
        strike(c, "/1");
        strike(c, "/1");
        c.due("shunned until 40, no strikes", c.node(5), "[1, 0, 0, 0, 0, 2, 0, 0, 0, 0, 0, 40, 0]");
        c.due("the other is asked", asked(c, "/1"), 2);
        c.fresh();
        c.ask("GET /1\n\n");
        c.ask("GET /6\n\n");
        c.x.tick(10);
        c.due("two in one tick", c.node(5), "[1, 0, 0, 0, 0, 2, 0, 0, 0, 0, 0, 30, 0]");
    }

    private static void until20More(Check c) {
        strike(c, "/1");
        strike(c, "/1");
        c.x.tick(19);
        c.due("at 39", c.x.node(5, 11), 40);
        c.due("the other is asked", asked(c, "/1"), 2);
        c.x.tick(1);
        c.due("at 40", c.x.node(5, 11), 0);
        c.due("it is asked", asked(c, "/6"), 1);
    }

    private static void ofEachEdgeItsOwn(Check c) {
        strike(c, "/1");
        strike(c, "/0");
        c.due("edge 5", c.x.node(5, 9), 1);
        c.due("edge 4", c.x.node(4, 9), 1);
        c.due("none is shunned", c.x.node(5, 11) + c.x.node(4, 11), 0);
        strike(c, "/31");
        c.due("of each parent its own", c.x.node(5, 9) * 10 + c.x.node(5, 10), 11);
        strike(c, "/31");
        c.due("parent 2 is shunned until 60", c.node(5), "[1, 0, 0, 0, 0, 3, 0, 0, 0, 1, 0, 0, 60]");
    }

    private static void aThirdStrike(Check c) {
        c.ask("GET /1\n\n");
        c.ask("GET /6\n\n");
        c.ask("GET /18\n\n");
        c.x.tick(10);
        c.due("one anew, shunned all the same", c.node(5), "[1, 0, 0, 0, 0, 3, 0, 0, 0, 1, 0, 30, 0]");
        c.x.tick(20);
        c.due("the strike stays when it is shunned no more", c.node(5), "[1, 0, 0, 0, 0, 3, 0, 0, 0, 1, 0, 0, 0]");
        strike(c, "/1");
        c.due("the next one is the second", c.node(5), "[1, 0, 0, 0, 0, 4, 0, 0, 0, 0, 0, 60, 0]");
    }

    private static void secondStrikeOfOneShunned(Check c) {
        c.x.fail(2);
        strike(c, "/1");
        strike(c, "/1");
        c.due("shunned until 40", c.x.node(5, 11), 40);
        c.due("asked all the same", asked(c, "/1"), 1);
        c.x.tick(5);
        c.due("asked again", asked(c, "/6"), 1);
        c.x.tick(5);
        c.due("a third strike: until 40", c.node(5), "[1, 0, 0, 0, 0, 4, 1, 1, 0, 1, 0, 40, 0]");
        c.x.tick(5);
        c.due("a second of these at 35: until 55", c.node(5), "[1, 0, 0, 0, 0, 4, 0, 0, 0, 0, 0, 55, 0]");
    }

    private static void everyFillButOne(Check c) {
        // 404, 200, 304, and one that is refused
        strike(c, "/1");
        c.get("GET /1\n\n");
        c.due("404", c.x.node(5, 9), 0);
        c.put("PUT /1\nlength: 20\n\n");
        strike(c, "/6");
        c.get("GET /1\n\n");
        c.due("200", c.x.node(5, 9), 0);
        strike(c, "/6");
        c.ask("GET /1\n\n");
        c.due("has version 1", c.x.message(0, 10), 1);
        c.x.settle();
        c.due("304", c.x.node(5, 9), 0);
        c.x.fail(2);
        strike(c, "/6");
        strike(c, "/6");
        c.due("shunned", c.x.node(5, 11) > 0, true);
        strike(c, "/6");
        c.due("with a strike", c.x.node(5, 9), 1);
        c.ask("GET /1\n\n");
        for (int i = 0; i < 3; i++) {
            c.x.deliver(0);
        }
        c.x.purge(0, 1);
        c.x.deliver(4);
        c.due("shunned yet", c.x.node(5, 11) > 0, true);
        c.x.deliver(0);
        c.due("one that is refused: no strike", c.x.node(5, 9), 0);
        c.due("shunned no longer", c.x.node(5, 11), 0);
        c.due("the fetch is out again", c.x.node(5, 6), 1);
    }

    /** The parent's fetch, of another EDGE's time, fails a tick before the fetch of EDGE 5 for the same key would. */
    private static void fill504(Check c) {
        for (int strikes = 1; strikes <= 2; strikes++) {
            c.fresh();
            c.x.fail(5);
            c.ask("GET /1\n\n");
            c.x.deliver(0);
            c.x.lose(0);
            c.x.back(5);
            c.ask("GET /6\n\n");
            c.x.lose(0);
            if (strikes == 2) {
                c.ask("GET /18\n\n");
                c.x.lose(0);
            }
            c.x.tick(1);
            int r = c.ask("GET /1\n\n");
            c.x.deliver(0);
            c.due("both wait at the parent", c.x.node(1, 7), 2);
            c.x.tick(9);
            c.due("a fill 504 for edge 5", c.x.message(1, 2) * 1000 + c.x.message(1, 6), 5504);
            c.due("its fetch is out", c.x.node(5, 6), 1);
            c.x.deliver(1);
            c.due("504", c.x.answer(r, 0), 504);
            c.due("a strike stays", c.x.node(5, 9), strikes == 1 ? 1 : 0);
            c.due("it is shunned on", c.x.node(5, 11), strikes == 1 ? 0 : 30);
        }
    }

    private static void fillForAnOldFetch(Check c) {
        c.put("PUT /1\nlength: 20\n\n");
        c.ask("GET /1\n\n");
        for (int i = 0; i < 3; i++) {
            c.x.deliver(0);
        }
        c.x.tick(10);
        c.due("one strike", c.x.node(5, 9), 1);
        c.x.deliver(0);
        c.due("what comes too late takes none away", c.x.node(5, 9), 1);
    }

    private static void bothAreShunned(Check c) {
        strike(c, "/1");
        strike(c, "/1");
        strike(c, "/31");
        strike(c, "/31");
        c.due("1 until 40, 2 until 60", c.x.node(5, 11) * 100 + c.x.node(5, 12), 60);
        c.fresh();
        c.ask("GET /1\n\n");
        c.ask("GET /6\n\n");
        c.ask("GET /31\n\n");
        c.ask("GET /12/2\n\n");
        c.x.tick(10);
        c.due("both until 30", c.x.node(5, 11) * 100 + c.x.node(5, 12), 3030);
        c.due("the ring of all: parent 1", asked(c, "/1"), 1);
        c.due("the ring of all: parent 2", asked(c, "/31"), 2);
    }

    private static void theOtherIsDown(Check c) {
        strike(c, "/1");
        strike(c, "/1");
        c.due("shunned", c.x.node(5, 11), 40);
        c.x.fail(2);
        c.due("no other is up", asked(c, "/1"), 1);
        c.x.fail(1);
        int r = c.ask("GET /6\n\n");
        c.due("none at all", c.x.answer(r, 0), 504);
    }
}
