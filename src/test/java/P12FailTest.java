/** Promise 12: fail. */
public final class P12FailTest {
    public static void main(String[] args) {
        Check c = new Check("promise 12");
        int[] none = {0, -1, 7, Integer.MIN_VALUE, Integer.MAX_VALUE};
        for (int n : none) {
            c.due("fail " + n, c.x.fail(n), false);
        }
        for (int n = 1; n <= 6; n++) {
            c.due("fail " + n, c.x.fail(n), true);
            c.due("fail " + n + " again", c.x.fail(n), false);
            c.due("node " + n, c.node(n), "[0, 0, 0, 0, 0, 0, 0, 0, 0, 0, 0, 0, 0]");
        }
        ofAnEdge(c);
        ofAParent(c);
        noParent(c);
        strikesGo(c);
        c.end();
    }

    private static void ofAnEdge(Check c) {
        c.fresh();
        c.put("PUT /1\nlength: 40\ncache-control: max-age=50\n\n");
        c.get("GET /1\n\n");
        c.get("GET /1\n\n");
        c.x.purge(0, 9);
        c.x.settle();
        int a = c.ask("GET /6\n\n");
        int b = c.ask("GET /18\n\n");
        int d = c.ask("GET /18\n\n");
        int other = c.ask("GET /2\n\n");
        c.due("before", c.node(5), "[1, 1, 64, 1, 1, 3, 2, 3, 1, 0, 0, 0, 0]");
        c.x.tick(1);
        c.x.fail(5);
        c.due("hits and misses stay", c.node(5), "[0, 0, 0, 0, 1, 3, 0, 0, 0, 0, 0, 0, 0]");
        c.due("502", c.answer(a), "[502, 0, 0, 0, 0, 17, 1, 5, 0]");
        c.due("502 of another key", c.x.answer(b, 0), 502);
        c.due("502 of one behind it", c.text(d), "502 Bad Gateway\n\n");
        c.due("not of another edge", c.x.answer(other, 0), 0);
        c.due("entry", c.x.entry(5, 1, 0, 0, 0), -1);
        c.due("answered", c.x.total(3), 5);
        c.due("an edge beside it", c.x.answer(c.ask("GET /1\n\n"), 7), Check.ring(new int[] {3, 4, 6}, 1, 0));
        c.x.back(5);
        c.x.settle();
        c.due("what comes for the old ones is passed over", c.x.node(5, 1), 0);
        c.due("502 stays", c.x.answer(a, 0), 502);
        c.ask("GET /6\n\n");
        c.due("numbers go on", c.x.message(0, 3), 4);
    }

    private static void ofAParent(Check c) {
        c.fresh();
        c.put("PUT /1\nlength: 40\ncache-control: max-age=50\n\n");
        int r = c.ask("GET /1\n\n");
        c.x.deliver(0);
        c.due("waits at the parent", c.x.node(1, 7), 1);
        c.x.fail(1);
        c.due("edges get nothing", c.x.total(0), 1);
        c.due("down", c.node(1), "[0, 0, 0, 0, 0, 1, 0, 0, 0, 0, 0, 0, 0]");
        c.due("the client waits on", c.x.answer(r, 0), 0);
        c.x.settle();
        c.x.tick(10);
        c.due("a strike", c.x.node(5, 9), 1);
        c.due("504", c.x.answer(r, 0), 504);
        c.x.back(1);
        c.ask("GET /1\n\n");
        c.x.deliver(0);
        c.due("the parent's numbers go on", c.x.message(0, 3), 2);
    }

    private static void noParent(Check c) {
        c.fresh();
        c.put("PUT /1\nlength: 40\ncache-control: max-age=5, stale-if-error=9, stale-while-revalidate=2\n\n");
        c.get("GET /1\n\n");
        c.x.fail(1);
        c.x.fail(2);
        c.x.tick(5);
        int a = c.ask("GET /1\n\n");
        c.due("stale, and nothing is asked", c.x.answer(a, 4), 2);
        c.due("no fetch", c.x.node(5, 6) + c.x.total(0), 0);
        c.due("no miss", c.x.node(5, 5), 1);
        c.x.tick(2);
        int b = c.ask("GET /1\n\n");
        c.due("it fails at once: stale", c.x.answer(b, 4), 2);
        c.due("a miss all the same", c.x.node(5, 5), 2);
        c.due("age", c.x.answer(b, 2), 7);
        c.x.tick(7);
        int d = c.ask("GET /1\n\n");
        c.due("it fails at once", c.x.answer(d, 0), 504);
        c.due("a miss", c.x.node(5, 5), 3);
        c.due("no fetch is out", c.x.node(5, 6), 0);
        c.due("nobody waits", c.x.node(5, 7), 0);
        c.x.back(2);
        c.ask("GET /1\n\n");
        c.due("the number was not used", c.message(0), "[0, 5, 2, 2, 1, 0, 0, 15, 0, 0, 1, 0]");
    }

    private static void strikesGo(Check c) {
        c.fresh();
        c.ask("GET /1\n\n");
        c.ask("GET /6\n\n");
        c.ask("GET /18\n\n");
        c.x.tick(10);
        c.due("struck", c.node(5), "[1, 0, 0, 0, 0, 3, 0, 0, 0, 1, 0, 30, 0]");
        c.x.fail(5);
        c.due("down", c.node(5), "[0, 0, 0, 0, 0, 3, 0, 0, 0, 0, 0, 0, 0]");
        c.x.back(5);
        c.due("back", c.node(5), "[1, 0, 0, 0, 0, 3, 0, 0, 0, 0, 0, 0, 0]");
        c.fresh();
        c.ask("GET /31\n\n");
        c.ask("GET /12/2\n\n");
        c.ask("GET /12/3\n\n");
        c.x.tick(10);
        c.due("struck by the other parent", c.node(5), "[1, 0, 0, 0, 0, 3, 0, 0, 0, 0, 1, 0, 30]");
        c.x.fail(5);
        c.x.back(5);
        c.due("back again", c.node(5), "[1, 0, 0, 0, 0, 3, 0, 0, 0, 0, 0, 0, 0]");
    }
}
