/** Promise 14: budget, and how a STORE keeps to it. */
public final class P14BudgetTest {
    public static void main(String[] args) {
        Check c = new Check("promise 14");
        wrongOnes(c);
        oldestOfNewGoes(c);
        keptIsHalf(c);
        byBudgetItself(c);
        tooGreatForAll(c);
        partStays(c);
        c.end();
    }

    private static void wrongOnes(Check c) {
        int[] nodes = {0, -1, 7, Integer.MIN_VALUE, Integer.MAX_VALUE};
        for (int n : nodes) {
            c.due("budget of node " + n, c.x.budget(n, 100), false);
        }
        int[] bytes = {31, 2001, 0, -1, Integer.MIN_VALUE, Integer.MAX_VALUE};
        for (int n = 1; n <= 6; n++) {
            for (int b : bytes) {
                c.due("budget " + b, c.x.budget(n, b), false);
            }
            c.due("budget 32", c.x.budget(n, 32), true);
            c.due("budget 2000", c.x.budget(n, 2000), true);
        }
        c.x.fail(3);
        c.due("budget of one that is down", c.x.budget(3, 64), true);
    }

    /** Four keys of EDGE 6: 2, 5, 9, 10, each with two blocks: 48. */
    private static void four(Check c, int budget) {
        c.fresh();
        c.due("budget", c.x.budget(6, budget), true);
        int[] paths = {2, 5, 9, 10};
        for (int path : paths) {
            c.put("PUT /" + path + "\nlength: 20\ncache-control: max-age=50\n\n");
            c.get("GET /" + path + "\n\n");
        }
    }

    private static String places(Check c) {
        StringBuilder b = new StringBuilder();
        int[] paths = {2, 5, 9, 10};
        for (int path : paths) {
            b.append(path).append(':').append(c.x.entry(6, path, 0, 0, 4)).append('/');
            b.append(c.x.entry(6, path, 0, 0, 5)).append(' ');
        }
        return b.toString();
    }

    private static void oldestOfNewGoes(Check c) {
        four(c, 192);
        c.due("all four fit", places(c), "2:0/0 5:0/1 9:0/2 10:0/3 ");
        c.due("sizes", c.x.node(6, 2), 192);
        four(c, 191);
        c.due("the oldest went", places(c), "2:-1/-1 5:0/0 9:0/1 10:0/2 ");
        four(c, 96);
        c.due("two went", places(c), "2:-1/-1 5:-1/-1 9:0/0 10:0/1 ");
        four(c, 48);
        c.due("one stays", places(c), "2:-1/-1 5:-1/-1 9:-1/-1 10:0/0 ");
        four(c, 47);
        c.due("the one that just came goes", places(c), "2:-1/-1 5:-1/-1 9:-1/-1 10:-1/-1 ");
        c.due("it was answered all the same", c.x.answer(3, 0), 200);
        c.due("none of it is stored", c.x.node(6, 1), 0);
        // a refill comes to be the latest one
        four(c, 192);
        c.get("GET /2\ncache-control: no-cache\n\n");
        c.due("the latest of new", places(c), "2:0/3 5:0/0 9:0/1 10:0/2 ");
    }

    private static void keptIsHalf(Check c) {
        four(c, 193);
        c.get("GET /2\n\n");
        c.due("used: kept", places(c), "2:1/0 5:0/0 9:0/1 10:0/2 ");
        c.due("how many are kept", c.x.node(6, 3), 1);
        c.get("GET /9\n\n");
        c.due("two kept", places(c), "2:1/0 5:0/0 9:1/1 10:0/1 ");
        c.get("GET /2\n\n");
        c.due("used again: the latest", places(c), "2:1/1 5:0/0 9:1/0 10:0/1 ");
        c.get("GET /10\n\n");
        c.due("the oldest of kept comes to new", places(c), "2:1/0 5:0/0 9:0/1 10:1/1 ");
        c.due("nothing went", c.x.node(6, 1), 4);
        c.put("PUT /2\nlength: 40\ncache-control: max-age=50\n\n");
        c.get("GET /2\ncache-control: no-cache\n\n");
        c.due("a kept one that comes again: of kept, then half, then all", places(c), "2:1/0 5:-1/-1 9:0/0 10:0/1 ");
        c.due("its size", c.x.node(6, 2), 160);
    }

    private static void byBudgetItself(Check c) {
        four(c, 400);
        c.get("GET /2\n\n");
        c.get("GET /5\n\n");
        c.get("GET /9\n\n");
        c.due("three kept", places(c), "2:1/0 5:1/1 9:1/2 10:0/0 ");
        c.x.budget(6, 287);
        c.due("half is 143", places(c), "2:0/1 5:1/0 9:1/1 10:0/0 ");
        c.x.budget(6, 160);
        c.due("one kept; the oldest of new went", places(c), "2:0/0 5:0/1 9:1/0 10:-1/-1 ");
        c.x.budget(6, 100);
        c.due("two left", places(c), "2:-1/-1 5:0/0 9:1/0 10:-1/-1 ");
        c.x.budget(6, 95);
        c.due("half is 47: none kept", places(c), "2:-1/-1 5:-1/-1 9:0/0 10:-1/-1 ");
        c.x.budget(6, 32);
        c.due("none left", c.x.node(6, 1), 0);
        c.x.budget(6, 2000);
        c.due("nothing comes back", c.x.node(6, 1), 0);
    }

    private static void tooGreatForAll(Check c) {
        c.fresh();
        c.x.budget(5, 32);
        c.x.budget(1, 32);
        c.put("PUT /1\nlength: 255\ncache-control: max-age=50\n\n");
        int a = c.ask("GET /1\n\n");
        int b = c.ask("GET /1\n\n");
        c.x.settle();
        c.due("both are answered", c.x.answer(a, 3) + c.x.answer(b, 3), 510);
        c.due("by two fetches", c.x.node(5, 5), 2);
        int d = c.get("GET /1\nrange: bytes=16-20\n\n");
        c.due("one block fits", c.x.node(5, 2), 32);
        c.due("answered", c.x.answer(d, 0), 206);
        int e = c.get("GET /1\nrange: bytes=16-20\n\n");
        c.due("a hit, but not kept: half is 16", c.x.entry(5, 1, 0, 0, 4), 0);
        c.due("hit", c.x.answer(e, 4), 1);
        c.get("GET /1\nrange: bytes=16-40\n\n");
        c.due("two blocks do not fit", c.x.node(5, 1), 0);
    }

    /** A fall takes the STORE's entries; the BUDGET is the node's. */
    private static void partStays(Check c) {
        c.fresh();
        c.put("PUT /1\nlength: 40\ncache-control: max-age=50\n\n");
        c.x.budget(5, 48);
        c.x.fail(5);
        c.x.back(5);
        c.get("GET /1\n\n");
        c.due("three blocks do not fit in 48", c.x.node(5, 1), 0);
        c.due("they do at the parent", c.x.node(1, 2), 64);
    }
}
