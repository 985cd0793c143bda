import java.util.NoSuchElementException;

/** Promise 1: no things, nothing stored, the clock 0. */
public final class P01NewObjectTest {
    public static void main(String[] args) {
        Check c = new Check("promise 1");
        c.due("NONE", EdgeHouse.NONE, -1);
        for (int what = 0; what <= 6; what++) {
            c.due("total " + what, c.x.total(what), 0);
        }
        for (int n = 1; n <= 6; n++) {
            c.due("node " + n, c.node(n), "[1, 0, 0, 0, 0, 0, 0, 0, 0, 0, 0, 0, 0]");
            for (int path = 0; path < 32; path++) {
                c.due("entry", c.x.entry(n, path, 0, 0, 0), -1);
            }
            c.due("no node is down", c.x.back(n), false);
        }
        for (int path = 0; path < 32; path++) {
            c.due("drop " + path, c.x.drop(path), false);
        }
        c.due("fault", c.x.fault(), -1);
        c.due("message", c.x.message(0, 0), -1);
        c.due("deliver", c.x.deliver(0), false);
        c.due("lose", c.x.lose(0), false);
        c.due("settle", c.x.settle(), 0);
        c.due("letter", c.x.letter(0, 0), -1);
        boolean thrown = false;
        try {
            c.x.answer(0, 0);
        } catch (NoSuchElementException e) {
            thrown = true;
        }
        c.due("answer throws", thrown, true);
        nothingAtTheOrigin(c);
        objectsAreApart(c);
        budgetsAre1000(c);
        c.end();
    }

    private static void nothingAtTheOrigin(Check c) {
        c.fresh();
        int r = c.get("GET /0\n\n");
        c.due("status of a path without a thing", c.x.answer(r, 0), 404);
        c.due("the tape is empty: the first version", c.put("PUT /0\n\n"), 1);
    }

    private static void objectsAreApart(Check c) {
        c.fresh();
        EdgeHouse other = new EdgeHouse();
        c.put("PUT /1\n\n");
        c.ask("GET /1\n\n");
        c.x.tick(3);
        c.x.fail(1);
        c.x.purge(0, 1);
        c.due("clock of another one", other.total(6), 0);
        c.due("requests of another one", other.total(2), 0);
        c.due("order of another one", other.total(1), 0);
        c.due("messages of another one", other.total(0), 0);
        c.due("node 1 of another one", other.node(1, 0), 1);
        c.due("thing of another one", other.drop(1), false);
    }

    private static void budgetsAre1000(Check c) {
        for (int n = 1; n <= 6; n++) {
            c.fresh();
            // each entry of 15 blocks has 256: three stay below 1000
            int seen = 0;
            for (int path = 0; path < 32 && seen < 4; path++) {
                if (Check.edge(path, 0) != n && Check.parent(path, 0) != n) {
                    continue;
                }
                c.put("PUT /" + path + "\nlength: 240\n\n");
                c.get("GET /" + path + "\n\n");
                seen++;
                c.due("entries of node " + n, c.x.node(n, 1), Math.min(seen, 3));
                c.due("sizes of node " + n, c.x.node(n, 2), 256 * Math.min(seen, 3));
            }
        }
    }
}
