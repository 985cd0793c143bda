/** Promise 9: settle. */
public final class P09SettleTest {
    public static void main(String[] args) {
        Check c = new Check("promise 9");
        c.due("nothing waits", c.x.settle(), 0);
        c.put("PUT /1\nlength: 9\n\n");
        int r = c.ask("GET /1\n\n");
        c.due("four for a miss", c.x.settle(), 4);
        c.due("answered", c.x.answer(r, 0), 200);
        c.due("nothing waits then", c.x.total(0), 0);
        c.due("a purge and its acks", c.x.purge(0, 1), 1);
        c.due("twelve", c.x.settle(), 12);
        c.due("acks", c.x.total(5), 6);
        c.x.fail(3);
        c.x.fail(1);
        c.x.purge(0, 1);
        c.x.fail(4);
        c.due("one to a node that is down counts", c.x.settle(), 7);

        inTheirOrder(c);
        atMost500(c);
        c.end();
    }

    /** The oldest goes first: the purge comes to the parent before the fill of the request behind it is there. */
    private static void inTheirOrder(Check c) {
        c.fresh();
        c.put("PUT /1\nlength: 9\ncache-control: max-age=9\n\n");
        c.ask("GET /1\n\n");
        c.x.deliver(0);
        c.x.deliver(0);
        // now a fill with mark 0 waits for the parent, then the purge
        c.x.purge(0, 1);
        c.due("the fill first, then all of the purge and the rest", c.x.settle(), 18);
        c.due("the parent had it, and lost it by the purge; the edge refused it", c.x.node(5, 1), 1);
        c.due("its mark", c.x.entry(5, 1, 0, 0, 3), 1);
        c.due("two fetches of the edge", c.x.node(1, 5), 2);
    }

    private static void atMost500(Check c) {
        c.fresh();
        c.put("PUT /1\n\n");
        for (int i = 0; i < 130; i++) {
            c.ask("GET /1\n\n");
        }
        c.due("one fetch for all", c.x.total(0), 1);
        c.due("500 of 520", c.x.settle(), 500);
        c.due("answered", c.x.total(3), 125);
        c.due("one waits", c.x.total(0), 1);
        c.due("the others", c.x.settle(), 20);
        c.due("all answered", c.x.total(3), 130);
        c.due("none waits", c.x.total(0), 0);
    }
}
