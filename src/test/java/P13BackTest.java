/** Promise 13: back. */
public final class P13BackTest {
    public static void main(String[] args) {
        Check c = new Check("promise 13");
        int[] none = {0, -1, 7, Integer.MIN_VALUE, Integer.MAX_VALUE};
        for (int n : none) {
            c.due("back " + n, c.x.back(n), false);
        }
        for (int n = 1; n <= 6; n++) {
            c.due("back of one that is up", c.x.back(n), false);
            c.x.fail(n);
            c.due("back " + n, c.x.back(n), true);
            c.due("back " + n + " again", c.x.back(n), false);
            c.due("up", c.node(n), "[1, 0, 0, 0, 0, 0, 0, 0, 0, 0, 0, 0, 0]");
        }
        seenIsTheOrder(c);
        parentIsTrusted(c);
        trustedByAllEdges(c);
        knowsNoPurgeYet(c);
        edgeDoesNotChangeOthers(c);
        emptyButAlive(c);
        c.end();
    }

    private static void seenIsTheOrder(Check c) {
        c.fresh();
        c.x.fail(3);
        c.x.purge(0, 1);
        c.x.purge(0, 2);
        c.x.back(3);
        c.due("seen", c.x.node(3, 8), 2);
        c.due("of another one", c.x.node(4, 8), 0);
        c.x.purge(1, 2);
        c.due("the next purge goes there", c.x.message(12, 2), 3);
    }

    private static void parentIsTrusted(Check c) {
        c.fresh();
        c.ask("GET /1\n\n");
        c.ask("GET /6\n\n");
        c.ask("GET /18\n\n");
        c.ask("GET /0\n\n");
        c.ask("GET /2\n\n");
        c.x.tick(10);
        c.due("edge 5", c.node(5), "[1, 0, 0, 0, 0, 3, 0, 0, 0, 1, 0, 30, 0]");
        c.due("edge 4", c.node(4), "[1, 0, 0, 0, 0, 1, 0, 0, 0, 1, 0, 0, 0]");
        c.due("edge 6", c.node(6), "[1, 0, 0, 0, 0, 1, 0, 0, 0, 0, 1, 0, 0]");
        c.x.fail(1);
        c.due("a fall changes nothing of that", c.x.node(5, 11), 30);
        c.x.back(1);
        c.due("edge 5 then", c.node(5), "[1, 0, 0, 0, 0, 3, 0, 0, 0, 0, 0, 0, 0]");
        c.due("edge 4 then", c.node(4), "[1, 0, 0, 0, 0, 1, 0, 0, 0, 0, 0, 0, 0]");
        c.due("the other parent's stay", c.node(6), "[1, 0, 0, 0, 0, 1, 0, 0, 0, 0, 1, 0, 0]");
    }

    private static void trustedByAllEdges(Check c) {
        // a key of each edge whose parent is 1, and one whose parent is 2
        String[] ofOne = {"/24", "/0", "/1", "/5"};
        String[] ofTwo = {"/8", "/3", "/31", "/2"};
        for (int parent = 1; parent <= 2; parent++) {
            for (int i = 0; i < 4; i++) {
                c.fresh();
                c.ask("GET " + (parent == 1 ? ofOne[i] : ofTwo[i]) + "\n\n");
                c.x.tick(10);
                c.due("a strike of edge " + (3 + i), c.x.node(3 + i, 8 + parent), 1);
                c.x.fail(parent);
                c.x.back(parent);
                c.due("none of edge " + (3 + i), c.x.node(3 + i, 8 + parent), 0);
            }
        }
    }

    private static void knowsNoPurgeYet(Check c) {
        c.fresh();
        c.put("PUT /1\nlength: 9\ncache-control: max-age=90\n\n");
        c.x.fail(5);
        c.x.back(5);
        int r = c.ask("GET /1\n\n");
        c.x.deliver(0);
        c.x.deliver(0);
        c.x.deliver(0);
        c.x.purge(0, 1);
        c.x.deliver(0);
        c.due("the purge has not come: the fill is taken in", c.x.answer(r, 0), 200);
        c.due("its mark", c.x.entry(5, 1, 0, 0, 3), 0);
    }

    private static void edgeDoesNotChangeOthers(Check c) {
        c.fresh();
        c.ask("GET /1\n\n");
        c.x.tick(10);
        c.x.fail(3);
        c.x.back(3);
        c.due("strikes of another edge stay", c.x.node(5, 9), 1);
    }

    private static void emptyButAlive(Check c) {
        c.fresh();
        c.put("PUT /1\nlength: 9\ncache-control: max-age=90\n\n");
        c.get("GET /1\n\n");
        c.x.fail(5);
        c.x.fail(1);
        c.x.back(5);
        c.x.back(1);
        c.due("nothing is stored", c.x.node(5, 1) + c.x.node(1, 1), 0);
        int r = c.get("GET /1\n\n");
        c.due("it works again", c.x.answer(r, 0), 200);
        c.due("by its old edge", c.x.answer(r, 7), 5);
        c.due("misses go on", c.x.node(5, 5), 2);
        c.due("a hit", c.x.answer(c.ask("GET /1\n\n"), 4), 1);
    }
}
