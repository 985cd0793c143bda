import java.io.IOException;

/** Promise 1, a new object: the sentences that name a boundary case. */
public final class B01NewObjectTest {
    private static final String NEW = "No things, nothing stored, the clock 0.";
    private static final String NODES = "Each but the origin is UP or DOWN (UP at first), and has a STORE with a BUDGET "
        + "(1000 at first), a number SEEN (of the latest PURGE that came there; 0 at first).";
    private static final String CALLS = "An object is used for at most 512 calls after it has been made; "
        + "what later calls answer is free.";

    public static void main(String[] args) throws IOException {
        Boundary b = new Boundary(1);
        noThings(b.of(NEW));
        nothingStored(b.of(NEW));
        clockIs0(b.of(NEW));
        upAtFirst(b.of(NODES));
        for (int n = 1; n <= 6; n++) {
            budgetIs1000AtFirst(b.of(NODES), n);
        }
        seenIs0AtFirst(b.of(NODES));
        orderIs0AtFirst(b.of("THE ORDER is the number of the latest PURGE (0 at first)."));
        the512thCall(b.of(CALLS));
        manyInOneObject(b.of(CALLS));
        b.end();
    }

    private static void noThings(Check c) {
        for (int path = 0; path < 32; path++) {
            c.due("drop " + path, c.x.drop(path), false);
        }
        c.due("answer without a thing", c.x.answer(c.get("GET /0\n\n"), 0), 404);
        c.due("the first version", c.put("PUT /0\n\n"), 1);
    }

    private static void nothingStored(Check c) {
        for (int n = 1; n <= 6; n++) {
            c.due("entries of " + n, c.x.node(n, 1), 0);
            c.due("sizes of " + n, c.x.node(n, 2), 0);
            c.due("kept of " + n, c.x.node(n, 3), 0);
            c.due("entry of " + n, c.x.entry(n, 0, 0, 0, 0), -1);
        }
        int r = c.ask("GET /0\ncache-control: only-if-cached\n\n");
        c.due("nothing is cached", c.x.answer(r, 0), 504);
    }

    private static void clockIs0(Check c) {
        c.due("clock", c.x.total(6), 0);
        c.x.ask();
        c.due("tick of an answer", c.x.answer(0, 6), 0);
        c.due("the first tick", c.tick(1), 1);
    }

    private static void upAtFirst(Check c) {
        for (int n = 1; n <= 6; n++) {
            c.due("up " + n, c.x.node(n, 0), 1);
            c.due("back " + n, c.x.back(n), false);
        }
        for (int n = 1; n <= 6; n++) {
            c.due("fail " + n, c.x.fail(n), true);
        }
    }

    /** The keys of five paths that come to node n, as targets. */
    private static String[] targetsOf(int n) {
        String[] targets = new String[5];
        int count = 0;
        for (int path = 0; path < 32 && count < 5; path++) {
            for (int variant = 0; variant < 4; variant++) {
                if (Check.edge(path, variant) == n || Check.parent(path, variant) == n) {
                    targets[count] = "/" + path + "/" + variant;
                    count++;
                    break;
                }
            }
        }
        return targets;
    }

    private static void store(Check c, String target, int length) {
        c.put("PUT " + target.substring(0, target.lastIndexOf('/')) + "\nlength: " + length + "\n\n");
        c.get("GET " + target + "\n\n");
    }

    /** Sizes are 16 times a number: 992 is the last that 1000 holds, 1008 the first that it does not. */
    private static void budgetIs1000AtFirst(Check c, int n) {
        String[] targets = targetsOf(n);
        for (int i = 0; i < 3; i++) {
            store(c, targets[i], 240);
        }
        store(c, targets[3], 208);
        c.due("992 fit in node " + n, c.x.node(n, 1), 4);
        c.due("sizes of node " + n, c.x.node(n, 2), 992);
        store(c, targets[4], 0);
        c.due("1008 do not fit in node " + n, c.x.node(n, 1), 4);
        c.due("the oldest went", c.x.node(n, 2), 992 + 16 - 256);
    }

    private static void seenIs0AtFirst(Check c) {
        for (int n = 1; n <= 6; n++) {
            c.due("seen of " + n, c.x.node(n, 8), 0);
        }
        c.ask("GET /1\n\n");
        c.due("least mark of a fetch", c.x.message(0, 8), 0);
    }

    private static void orderIs0AtFirst(Check c) {
        c.due("order", c.x.total(1), 0);
        c.put("PUT /1\n\n");
        c.get("GET /1\n\n");
        c.due("mark of what the origin gave", c.x.entry(5, 1, 0, 0, 3), 0);
        c.due("the first purge", c.x.purge(0, 9), 1);
        c.due("order then", c.x.total(1), 1);
        c.due("the second purge", c.x.purge(0, 9), 2);
        c.due("order of the latest", c.x.total(1), 2);
    }

    private static void the512thCall(Check c) {
        for (int i = 1; i <= 511; i++) {
            c.due("call " + i, c.tick(100), 100 * i);
        }
        c.due("call 512", c.x.total(6), 51100);
    }

    /** 250 requests for one key, each answered by a fetch of its own: 512 calls. */
    private static void manyInOneObject(Check c) {
        c.type("PUT /1\n\n");
        c.due("thing", c.update(), 1);
        for (int i = 0; i < 250; i++) {
            c.due("type", c.x.type(Check.word("GET /1\n\n"), 8), true);
            c.due("ask", c.x.ask(), i);
        }
        c.due("settle", c.x.settle(), 500);
        c.due("settle again", c.x.settle(), 500);
        c.due("all are answered", c.x.total(3), 250);
        c.due("misses", c.x.node(5, 5), 250);
        c.due("the last version", c.x.answer(249, 1), 1);
        c.due("the last edge", c.x.answer(249, 7), 5);
        c.due("characters", c.x.answer(249, 5), 47);
        c.due("its first character", c.x.letter(249, 0), '2');
        c.due("its last character", c.x.letter(249, 46), 10);
        c.due("call 512", c.x.letter(249, 47), -1);
    }
}
