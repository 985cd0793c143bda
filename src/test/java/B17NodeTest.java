import java.io.IOException;

/** Promise 17, node: the sentences that name a boundary case. */
public final class B17NodeTest {
    private static final String NONE = "NONE if it is none of 1 .. 6, or for another what.";
    private static final String DOWN = "SEEN (of a node that is DOWN HITS and MISSES stay, the others are 0)";
    private static final String SHUNS = "the tick until which it SHUNS them (0 if it does not; 9 to 12 are 0 of a PARENT).";
    private static final String MISSES = "MISSES (since the beginning; a FETCH for what is STALE is none)";
    private static final String WAIT = "requests that WAIT, of CLIENTS and EDGES";

    public static void main(String[] args) throws IOException {
        Boundary b = new Boundary(17);
        noneOfThem(b.of(NONE));
        anotherWhat(b.of(NONE));
        nothingButHitsAndMisses(b.of(DOWN));
        untilItDoesNot(b.of(SHUNS));
        neverOfAParent(b.of(SHUNS));
        sinceTheBeginning(b.of(MISSES));
        fetchForWhatIsStale(b.of(MISSES));
        ofClientsAndEdges(b.of(WAIT));
        b.end();
    }

    private static void noneOfThem(Check c) {
        int[] none = {0, 7, -1, Integer.MIN_VALUE, Integer.MAX_VALUE};
        for (int n : none) {
            for (int what = 0; what <= 12; what++) {
                c.due("node " + n + ", " + what, c.x.node(n, what), -1);
            }
        }
        for (int n = 1; n <= 6; n++) {
            c.due("node " + n, c.x.node(n, 0), 1);
        }
    }

    private static void anotherWhat(Check c) {
        int[] wrong = {-1, 13, 14, Integer.MIN_VALUE, Integer.MAX_VALUE};
        for (int n = 1; n <= 6; n++) {
            for (int what : wrong) {
                c.due("node " + n + ", " + what, c.x.node(n, what), -1);
            }
            c.due("what 12 of " + n, c.x.node(n, 12), 0);
        }
        c.x.fail(1);
        c.due("of one that is down", c.x.node(1, 13), -1);
    }

    private static void nothingButHitsAndMisses(Check c) {
        c.put("PUT /1\nlength: 20\ncache-control: max-age=50\n\n");
        c.get("GET /1\n\n");
        c.get("GET /1\n\n");
        c.x.purge(0, 9);
        c.x.settle();
        c.ask("GET /6\n\n");
        c.ask("GET /18\n\n");
        c.ask("GET /20\n\n");
        c.x.tick(10);
        c.ask("GET /6\n\n");
        c.due("up", c.node(5), "[1, 1, 48, 1, 1, 5, 1, 1, 1, 1, 0, 30, 0]");
        c.x.fail(5);
        c.due("down", c.node(5), "[0, 0, 0, 0, 1, 5, 0, 0, 0, 0, 0, 0, 0]");
        c.due("the parent up", c.node(1), "[1, 1, 48, 0, 0, 1, 0, 0, 1, 0, 0, 0, 0]");
        c.x.fail(1);
        c.due("the parent down", c.node(1), "[0, 0, 0, 0, 0, 1, 0, 0, 0, 0, 0, 0, 0]");
    }

    private static void untilItDoesNot(Check c) {
        c.due("at first", c.x.node(5, 11) + c.x.node(5, 12), 0);
        c.ask("GET /1\n\n");
        c.ask("GET /6\n\n");
        c.x.tick(10);
        c.due("at 10", c.x.node(5, 11), 30);
        c.x.tick(19);
        c.due("at 29", c.x.node(5, 11), 30);
        c.x.tick(1);
        c.due("at 30", c.x.node(5, 11), 0);
    }

    private static void neverOfAParent(Check c) {
        c.ask("GET /1\n\n");
        c.ask("GET /6\n\n");
        c.x.deliver(0);
        c.x.deliver(0);
        c.x.lose(0);
        c.x.lose(0);
        c.x.tick(10);
        c.due("two fetches of the parent failed", c.node(1), "[1, 0, 0, 0, 0, 2, 0, 0, 0, 0, 0, 0, 0]");
        c.due("those of the edge count", c.x.node(5, 11), 30);
    }

    private static void sinceTheBeginning(Check c) {
        c.put("PUT /1\ncache-control: max-age=50\n\n");
        for (int i = 0; i < 3; i++) {
            c.get("GET /1\n\n");
            c.x.fail(5);
            c.x.back(5);
        }
        c.due("misses go on", c.x.node(5, 5), 3);
        c.due("hits at the parent", c.x.node(1, 4), 2);
        c.x.fail(1);
        c.x.back(1);
        c.due("hits go on", c.x.node(1, 4), 2);
    }

    private static void fetchForWhatIsStale(Check c) {
        c.put("PUT /1\ncache-control: max-age=5, stale-while-revalidate=5\n\n");
        c.get("GET /1\n\n");
        c.x.tick(5);
        c.ask("GET /1\n\n");
        c.due("a fetch, no miss", c.x.node(5, 6) * 10 + c.x.node(5, 5), 11);
        c.x.deliver(0);
        c.due("at the parent as well", c.x.node(1, 6) * 10 + c.x.node(1, 5), 11);
        c.due("no hit of either", c.x.node(5, 4) + c.x.node(1, 4), 0);
    }

    private static void ofClientsAndEdges(Check c) {
        c.ask("GET /1\n\n");
        c.ask("GET /1\n\n");
        c.due("two clients", c.x.node(5, 7), 2);
        c.x.deliver(0);
        c.due("one edge", c.x.node(1, 7), 1);
        c.x.fail(5);
        c.due("no client", c.x.node(5, 7), 0);
        c.ask("GET /1\n\n");
        c.x.deliver(1);
        c.due("two edges for one fetch", c.x.node(1, 7) * 10 + c.x.node(1, 6), 21);
        c.x.settle();
        c.due("none", c.x.node(1, 7), 0);
    }
}
