import java.io.IOException;

/** Promise 12, fail: the sentences that name a boundary case. */
public final class B12FailTest {
    private static final String FAIL = "A node FAILS: true; false if it is none of 1 .. 6, or DOWN.";
    private static final String GONE = "its STORE, what it knows of PURGES, its FETCHES and what WAITS there are gone, SEEN is 0: "
        + "CLIENTS get 502, EDGES nothing.";
    private static final String STRIKES = "An EDGE that FAILS has no STRIKES against, and SHUNS, none";

    public static void main(String[] args) throws IOException {
        Boundary b = new Boundary(12);
        firstAndLastNode(b.of(FAIL));
        noneOfThem(b.of(FAIL));
        twice(b.of(FAIL));
        storeIsGone(b.of(GONE));
        clientsGet502(b.of(GONE));
        edgesGetNothing(b.of(GONE));
        nothingWasThere(b.of(GONE));
        seenIs0(b.of(GONE));
        edgeForgetsStrikes(b.of(STRIKES));
        parentThatFailsIsNotForgiven(b.of(STRIKES));
        b.end();
    }

    private static void firstAndLastNode(Check c) {
        for (int n = 1; n <= 6; n++) {
            c.due("fail " + n, c.x.fail(n), true);
            c.due("down " + n, c.x.node(n, 0), 0);
        }
    }

    private static void noneOfThem(Check c) {
        String before = c.state();
        int[] none = {0, 7, -1, Integer.MIN_VALUE, Integer.MAX_VALUE};
        for (int n : none) {
            c.due("fail " + n, c.x.fail(n), false);
        }
        c.due("nothing changed", c.state(), before);
        c.put("PUT /1\n\n");
        c.due("the origin is there", c.x.answer(c.get("GET /1\n\n"), 0), 200);
    }

    private static void twice(Check c) {
        c.due("first", c.x.fail(3), true);
        String before = c.state();
        c.due("second", c.x.fail(3), false);
        c.due("nothing changed", c.state(), before);
        c.x.back(3);
        c.due("again", c.x.fail(3), true);
    }

    private static void storeIsGone(Check c) {
        c.put("PUT /1\nlength: 20\ncache-control: max-age=50\n\n");
        c.get("GET /1\n\n");
        c.get("GET /1\n\n");
        c.x.fail(5);
        c.due("down: hits and misses stay", c.node(5), "[0, 0, 0, 0, 1, 1, 0, 0, 0, 0, 0, 0, 0]");
        c.due("no entry", c.x.entry(5, 1, 0, 0, 0), -1);
        c.x.back(5);
        c.due("up: nothing is back", c.node(5), "[1, 0, 0, 0, 1, 1, 0, 0, 0, 0, 0, 0, 0]");
        c.due("the parent's stays", c.x.node(1, 1), 1);
    }

    private static void clientsGet502(Check c) {
        int a = c.ask("GET /1\n\n");
        int b = c.ask("GET /1\n\n");
        int d = c.ask("HEAD /6\n\n");
        int other = c.ask("GET /2\n\n");
        c.x.tick(4);
        c.x.fail(5);
        c.due("the first", c.answer(a), "[502, 0, 0, 0, 0, 17, 4, 5, 0]");
        c.due("the one behind it", c.answer(b), "[502, 0, 0, 0, 0, 17, 4, 5, 0]");
        c.due("of another key", c.answer(d), "[502, 0, 0, 0, 0, 17, 4, 5, 0]");
        c.due("of another edge", c.x.answer(other, 0), 0);
        c.due("answered", c.x.total(3), 3);
        c.x.tick(6);
        c.due("they do not fail again", c.x.total(3), 4);
        c.due("no strikes", c.x.node(5, 9), 0);
    }

    private static void edgesGetNothing(Check c) {
        c.ask("GET /1\n\n");
        c.x.deliver(0);
        c.x.lose(0);
        c.due("one waits at the parent", c.x.node(1, 7), 1);
        c.x.fail(1);
        c.due("no message", c.x.total(0), 0);
        c.due("the client waits on", c.x.answer(0, 0), 0);
        c.due("the parent is empty", c.node(1), "[0, 0, 0, 0, 0, 1, 0, 0, 0, 0, 0, 0, 0]");
        c.x.tick(10);
        c.due("until the edge's fetch fails", c.x.answer(0, 0), 504);
        c.due("no message then", c.x.total(0), 0);
    }

    private static void nothingWasThere(Check c) {
        c.x.fail(4);
        c.due("no answer", c.x.total(3), 0);
        c.due("no message", c.x.total(0), 0);
        c.due("all 0", c.node(4), "[0, 0, 0, 0, 0, 0, 0, 0, 0, 0, 0, 0, 0]");
    }

    private static void seenIs0(Check c) {
        c.x.purge(0, 1);
        c.x.settle();
        c.due("seen 1", c.x.node(5, 8) + c.x.node(1, 8), 2);
        c.x.fail(5);
        c.x.fail(1);
        c.due("seen 0", c.x.node(5, 8) + c.x.node(1, 8), 0);
        c.due("of others it stays", c.x.node(4, 8) + c.x.node(2, 8), 2);
    }

    private static void edgeForgetsStrikes(Check c) {
        String[] targets = {"/1", "/6", "/18", "/31", "/12/2", "/12/3"};
        for (String target : targets) {
            c.ask("GET " + target + "\n\n");
        }
        c.x.tick(10);
        c.due("a strike and shunned, both", c.node(5), "[1, 0, 0, 0, 0, 6, 0, 0, 0, 1, 1, 30, 30]");
        c.x.fail(5);
        c.due("none", c.node(5), "[0, 0, 0, 0, 0, 6, 0, 0, 0, 0, 0, 0, 0]");
        c.x.back(5);
        c.due("none when it is back", c.node(5), "[1, 0, 0, 0, 0, 6, 0, 0, 0, 0, 0, 0, 0]");
    }

    private static void parentThatFailsIsNotForgiven(Check c) {
        c.ask("GET /1\n\n");
        c.ask("GET /6\n\n");
        c.ask("GET /18\n\n");
        c.x.tick(10);
        c.x.fail(1);
        c.due("edge 5 has it yet", c.node(5), "[1, 0, 0, 0, 0, 3, 0, 0, 0, 1, 0, 30, 0]");
        c.x.fail(4);
        c.due("another edge's fall does not matter", c.x.node(5, 9), 1);
    }
}
