/** Promise 17: node. */
public final class P17NodeTest {
    public static void main(String[] args) {
        Check c = new Check("promise 17");
        int[] none = {0, -1, 7, Integer.MIN_VALUE, Integer.MAX_VALUE};
        for (int n : none) {
            c.due("node " + n, c.x.node(n, 0), -1);
        }
        int[] wrong = {-1, 13, Integer.MIN_VALUE, Integer.MAX_VALUE};
        for (int what : wrong) {
            c.due("what " + what, c.x.node(1, what), -1);
        }
        counts(c);
        waiting(c);
        strikes(c);
        c.end();
    }

    private static void counts(Check c) {
        c.fresh();
        c.put("PUT /1\nlength: 40\ncache-control: max-age=5, stale-while-revalidate=2\n\n");
        c.put("PUT /6\nlength: 0\ncache-control: max-age=5\n\n");
        c.get("GET /1\n\n");
        c.get("GET /6\n\n");
        c.get("GET /1\n\n");
        c.due("edge", c.node(5), "[1, 2, 80, 1, 1, 2, 0, 0, 0, 0, 0, 0, 0]");
        c.due("parent", c.node(1), "[1, 2, 80, 0, 0, 2, 0, 0, 0, 0, 0, 0, 0]");
        c.due("another parent", c.node(2), "[1, 0, 0, 0, 0, 0, 0, 0, 0, 0, 0, 0, 0]");
        c.x.tick(6);
        c.ask("GET /1\n\n");
        c.due("a fetch for what is stale", c.node(5), "[1, 2, 80, 1, 1, 2, 1, 0, 0, 0, 0, 0, 0]");
        c.x.deliver(0);
        c.due("at the parent, too", c.node(1), "[1, 2, 80, 0, 0, 2, 1, 0, 0, 0, 0, 0, 0]");
        c.x.purge(0, 1);
        c.x.settle();
        c.due("after a purge", c.x.node(5, 8), 1);
        c.due("without its entry", c.x.node(5, 1), 1);
    }

    private static void waiting(Check c) {
        c.fresh();
        c.ask("GET /1\n\n");
        c.ask("GET /1\n\n");
        c.ask("GET /6\n\n");
        c.due("of clients", c.node(5), "[1, 0, 0, 0, 0, 2, 2, 3, 0, 0, 0, 0, 0]");
        c.x.deliver(0);
        c.x.deliver(0);
        c.due("of edges", c.node(1), "[1, 0, 0, 0, 0, 2, 2, 2, 0, 0, 0, 0, 0]");
        c.x.fail(5);
        c.x.back(5);
        c.ask("GET /1\n\n");
        c.x.deliver(c.x.total(0) - 1);
        c.due("a second one of an edge for a key", c.node(1), "[1, 0, 0, 0, 0, 2, 2, 3, 0, 0, 0, 0, 0]");
        c.x.settle();
        c.due("none", c.x.node(1, 7) + c.x.node(1, 6), 0);
    }

    private static void strikes(Check c) {
        c.fresh();
        // keys of edge 3: 8/0 has parent 2, 24/0 has parent 1
        c.ask("GET /8\n\n");
        c.ask("GET /24\n\n");
        c.x.tick(10);
        c.due("one against each", c.node(3), "[1, 0, 0, 0, 0, 2, 0, 0, 0, 1, 1, 0, 0]");
        c.ask("GET /8\n\n");
        c.x.tick(10);
        c.due("parent 2 is shunned", c.node(3), "[1, 0, 0, 0, 0, 3, 0, 0, 0, 1, 0, 0, 40]");
        c.ask("GET /24\n\n");
        c.x.tick(10);
        c.due("both are", c.node(3), "[1, 0, 0, 0, 0, 4, 0, 0, 0, 0, 0, 50, 40]");
        c.ask("GET /8\n\n");
        c.due("if there is no other: by the ring of all", c.x.message(4, 2), 2);
        c.x.tick(10);
        c.due("until 40", c.node(3), "[1, 0, 0, 0, 0, 5, 0, 0, 0, 0, 1, 50, 0]");
    }
}
