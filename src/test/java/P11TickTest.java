/** Promise 11: tick: the clock, FETCHES that fail, and the HEALTH of parents. */
public final class P11TickTest {
    public static void main(String[] args) {
        Check c = new Check("promise 11");
        clock(c);
        fetchesFail(c);
        byNumbers(c);
        staleIfError(c);
        staleIfErrorOfAFetch(c);
        strikes(c);
        shunsAreLifted(c);
        askedThoughShunned(c);
        parentsHaveNoStrikes(c);
        c.end();
    }

    private static void clock(Check c) {
        int[] wrong = {0, -1, 101, Integer.MIN_VALUE, Integer.MAX_VALUE};
        for (int n : wrong) {
            c.due("tick " + n, c.tick(n), -2);
        }
        c.due("the clock stands", c.x.total(6), 0);
        c.due("tick 1", c.tick(1), 1);
        c.due("tick 100", c.tick(100), 101);
        c.due("the clock", c.x.total(6), 101);
    }

    private static void fetchesFail(Check c) {
        c.fresh();
        c.x.tick(3);
        int a = c.ask("GET /1\n\n");
        int b = c.ask("HEAD /1\n\n");
        c.x.tick(9);
        c.due("nine ticks", c.x.answer(a, 0), 0);
        c.due("out yet", c.x.node(5, 6), 1);
        c.x.tick(1);
        c.due("ten ticks", c.answer(a), "[504, 0, 0, 0, 0, 21, 13, 5, 0]");
        c.due("all that wait", c.text(b), "504 Gateway Timeout\n\n");
        c.due("out no more", c.node(5), "[1, 0, 0, 0, 0, 1, 0, 0, 0, 1, 0, 0, 0]");
        c.due("the message waits on", c.x.total(0), 1);
        // within one call of many ticks the answer has its own tick
        int d = c.ask("GET /1\n\n");
        c.x.tick(50);
        c.due("tick of the answer", c.x.answer(d, 6), 23);
    }

    private static void byNumbers(Check c) {
        c.fresh();
        // two fetches of edges wait at the parent, and fail there by their numbers
        c.ask("GET /1\n\n");
        c.ask("GET /6\n\n");
        c.x.deliver(1);
        c.x.deliver(0);
        c.x.lose(0);
        c.x.lose(0);
        c.due("at the parent", c.x.node(1, 7), 2);
        c.x.tick(10);
        c.due("504 of the first", c.message(0), "[1, 1, 5, 2, 6, 0, 504, 0, 0, 0, 0, 0]");
        c.due("504 of the second", c.message(1), "[1, 1, 5, 1, 1, 0, 504, 0, 0, 0, 0, 0]");
        c.due("the edge's fetches failed as well", c.x.total(3), 2);
        c.due("two strikes at once: shunned", c.node(5), "[1, 0, 0, 0, 0, 2, 0, 0, 0, 0, 0, 30, 0]");
    }

    private static void staleIfError(Check c) {
        c.fresh();
        c.put("PUT /1\nlength: 40\ncache-control: max-age=5, stale-if-error=20\n\n");
        c.get("GET /1\nrange: bytes=0-15\n\n");
        c.x.tick(5);
        int a = c.ask("GET /1\nrange: bytes=0-9\n\n");
        int b = c.ask("GET /1\n\n");
        int d = c.ask("GET /1\ncache-control: no-cache\nrange: bytes=1-2\n\n");
        int e = c.ask("GET /1\nrange: bytes=50-60\n\n");
        int f = c.ask("GET /1\nrange: bytes=1-2\nif-none-match: \"8\"\n\n");
        c.x.tick(10);
        c.due("stale", c.answer(a), "[206, 1, 15, 10, 2, 101, 15, 5, 0]");
        c.due("text", c.text(a), "206 Partial Content\netag: \"8\"\nage: 15\ncache: stale\n"
            + "content-range: bytes 0-9/40\nlength: 10\n\n" + Check.bytes(1, 0, 1, 0, 0, 9));
        c.due("not enough blocks", c.x.answer(b, 0), 504);
        c.due("no-cache does not matter then", c.x.answer(d, 4), 2);
        c.due("no bytes are there", c.x.answer(e, 0), 416);
        c.due("not modified", c.x.answer(f, 0), 304);
        c.due("not used", c.entry(5, 1, 0, 0), "[1, 15, 1, 0, 0, 0, 0]");
        c.due("no hit", c.x.node(5, 4), 0);
        c.x.settle();
        int g = c.ask("GET /1\nrange: bytes=0-9\n\n");
        c.x.lose(0);
        c.x.tick(9);
        c.due("it waits", c.x.answer(g, 0), 0);
        c.x.tick(1);
        c.due("too old: 25 is not below 25", c.x.answer(g, 0), 504);
        c.fresh();
        c.put("PUT /1\nlength: 9\ncache-control: max-age=5, stale-if-error=12, no-cache\n\n");
        c.get("GET /1\n\n");
        c.x.tick(1);
        a = c.ask("GET /1\n\n");
        c.x.tick(10);
        c.due("max-age counts 0 with no-cache", c.x.answer(a, 0), 200);
        c.x.tick(1);
        b = c.ask("GET /1\n\n");
        c.x.fail(1);
        c.x.fail(2);
        d = c.ask("GET /1/3\n\n");
        c.due("no node to ask", c.x.answer(d, 0), 504);
        c.x.tick(10);
        c.due("12 is not below 12", c.x.answer(b, 0), 504);
    }

    private static void staleIfErrorOfAFetch(Check c) {
        c.fresh();
        c.put("PUT /1\nlength: 40\ncache-control: max-age=5, stale-if-error=40\n\n");
        c.get("GET /1\n\n");
        c.x.fail(5);
        c.x.back(5);
        c.x.tick(6);
        c.ask("GET /1\nrange: bytes=16-20\n\n");
        c.x.tick(1);
        c.x.deliver(0);
        c.x.lose(0);
        c.x.tick(9);
        c.due("the edge's failed", c.x.answer(1, 0), 504);
        c.x.tick(1);
        c.due("the parent's, too: a fill all the same", c.message(0), "[1, 1, 5, 2, 1, 0, 200, 1, 0, 0, 0, 0]");
        int r = c.ask("GET /1\nrange: bytes=16-20\n\n");
        c.x.deliver(1);
        c.due("a fetch of the parent again", c.x.message(1, 2), 0);
        c.x.lose(1);
        c.x.deliver(0);
        c.due("the late one is passed over", c.x.answer(r, 0), 0);
    }

    /** Lets a fetch of an edge be out for 10 ticks. */
    private static void strikeOne(Check c, String target) {
        int r = c.ask("GET " + target + "\n\n");
        c.x.lose(c.x.total(0) - 1);
        c.x.tick(10);
        c.due("504", c.x.answer(r, 0), 504);
    }

    private static void strikes(Check c) {
        c.fresh();
        strikeOne(c, "/1");
        c.due("one", c.node(5), "[1, 0, 0, 0, 0, 1, 0, 0, 0, 1, 0, 0, 0]");
        strikeOne(c, "/1");
        c.due("two: shunned", c.node(5), "[1, 0, 0, 0, 0, 2, 0, 0, 0, 0, 0, 40, 0]");
        c.ask("GET /1\n\n");
        c.due("the other parent is asked", c.x.message(0, 2), 2);
        c.ask("GET /0\n\n");
        c.due("other edges do not shun", c.x.message(1, 2), 1);
        c.x.lose(0);
        c.x.tick(10);
        c.due("one against the other", c.node(5), "[1, 0, 0, 0, 0, 3, 0, 0, 0, 0, 1, 40, 0]");
        c.x.tick(9);
        c.ask("GET /1\n\n");
        c.due("shunned at 39", c.x.message(1, 2), 2);
        c.x.tick(1);
        c.due("not shunned at 40", c.x.node(5, 11), 0);
        c.ask("GET /6\n\n");
        c.due("asked at 40", c.x.message(2, 2), 1);
    }

    private static void shunsAreLifted(Check c) {
        c.fresh();
        c.put("PUT /1\n\n");
        c.x.fail(2);
        strikeOne(c, "/6");
        strikeOne(c, "/18");
        c.due("shunned", c.x.node(5, 11), 40);
        strikeOne(c, "/18");
        int r = c.get("GET /1\n\n");
        c.due("the fill came", c.x.answer(r, 0), 200);
        c.due("no strike, no longer shunned", c.node(5), "[1, 1, 16, 0, 0, 4, 0, 0, 0, 0, 0, 0, 0]");
        strikeOne(c, "/6");
        c.due("a strike again", c.x.node(5, 9), 1);
        c.get("GET /6\n\n");
        c.due("taken away by a 404", c.x.node(5, 9), 0);

        c.fresh();
        c.put("PUT /1\nlength: 9\ncache-control: max-age=5, stale-while-revalidate=10\n\n");
        c.get("GET /1\n\n");
        c.x.tick(5);
        c.ask("GET /6\n\n");
        c.x.lose(0);
        c.x.tick(3);
        c.ask("GET /1\n\n");
        c.x.deliver(0);
        // the parent gave it out stale; its own fetch gets lost
        c.x.lose(1);
        c.x.deliver(0);
        c.x.tick(4);
        r = c.ask("GET /1\ncache-control: no-cache\n\n");
        c.x.deliver(0);
        c.due("it waits behind the parent's fetch", c.x.node(1, 7), 1);
        c.x.tick(6);
        c.due("the parent's fetch fails", c.message(0), "[1, 1, 5, 4, 1, 0, 504, 0, 0, 0, 0, 0]");
        c.due("a strike by the other fetch", c.x.node(5, 9), 1);
        c.x.deliver(0);
        c.due("504", c.x.answer(r, 0), 504);
        c.due("a 504 takes no strike away", c.x.node(5, 9), 1);
        c.due("at the tick at which it came", c.x.answer(r, 6), 18);
    }

    private static void askedThoughShunned(Check c) {
        c.fresh();
        c.x.fail(2);
        strikeOne(c, "/1");
        strikeOne(c, "/1");
        c.due("shunned", c.x.node(5, 11), 40);
        strikeOne(c, "/1");
        c.due("asked all the same: a strike begins anew", c.node(5), "[1, 0, 0, 0, 0, 3, 0, 0, 0, 1, 0, 40, 0]");
        strikeOne(c, "/1");
        c.due("shunned from then on", c.node(5), "[1, 0, 0, 0, 0, 4, 0, 0, 0, 0, 0, 60, 0]");
        c.x.back(2);
        c.ask("GET /1\n\n");
        c.due("the other one is there again", c.x.message(0, 2), 2);
    }

    private static void parentsHaveNoStrikes(Check c) {
        c.fresh();
        c.ask("GET /1\n\n");
        c.x.tick(2);
        c.x.deliver(0);
        c.x.lose(0);
        c.x.tick(8);
        c.due("the edge failed", c.x.node(5, 6), 0);
        c.due("the parent not yet", c.x.node(1, 6), 1);
        c.x.tick(2);
        c.due("the parent then, without strikes", c.node(1), "[1, 0, 0, 0, 0, 1, 0, 0, 0, 0, 0, 0, 0]");
        c.due("504 to the edge", c.message(0), "[1, 1, 5, 1, 1, 0, 504, 0, 0, 0, 0, 0]");
    }
}
