import java.io.IOException;

/** Promise 9, settle: the sentences that name a boundary case. */
public final class B09SettleTest {
    private static final String ALL = "All that wait are delivered, one after the other, also those that come by it: how many.";
    private static final String MOST = "At most 500 (others wait on).";

    public static void main(String[] args) throws IOException {
        Boundary b = new Boundary(9);
        noneWaits(b.of(ALL));
        thoseThatComeByIt(b.of(ALL));
        toNodesThatAreDown(b.of(ALL));
        inTheirOrder(b.of(ALL));
        below500(b.of(MOST));
        exactly500(b.of(MOST));
        above500(b.of(MOST));
        b.end();
    }

    private static void noneWaits(Check c) {
        String before = c.state();
        c.due("none", c.x.settle(), 0);
        c.due("nothing changed", c.state(), before);
    }

    private static void thoseThatComeByIt(Check c) {
        c.put("PUT /1\n\n");
        c.ask("GET /1\n\n");
        c.due("two fetches, two fills", c.x.settle(), 4);
        c.due("none waits", c.x.total(0), 0);
        c.x.purge(0, 1);
        c.due("six purges, six acks", c.x.settle(), 12);
        c.due("none is left", c.x.settle(), 0);
    }

    private static void toNodesThatAreDown(Check c) {
        c.x.purge(0, 1);
        for (int n = 1; n <= 6; n++) {
            c.x.fail(n);
        }
        c.due("six that are gone count", c.x.settle(), 6);
        c.due("none is lost", c.x.total(4), 0);
        c.due("no ack", c.x.total(5), 0);
    }

    /** The fill for the parent is older than the purge: it is taken in first, and goes again. */
    private static void inTheirOrder(Check c) {
        c.put("PUT /1\ncache-control: max-age=50\n\n");
        c.ask("GET /1\n\n");
        c.x.deliver(0);
        c.x.deliver(0);
        c.x.purge(0, 1);
        c.due("all", c.x.settle(), 18);
        c.due("the edge's first fill was refused", c.x.node(5, 5), 1);
        c.due("two misses of the parent", c.x.node(1, 5), 2);
        c.due("mark", c.x.entry(5, 1, 0, 0, 3), 1);
    }

    /** So many requests for one key: four messages each, one behind the other. */
    private static void asked(Check c, int count) {
        c.put("PUT /1\n\n");
        for (int i = 0; i < count; i++) {
            c.ask("GET /1\n\n");
        }
        c.due("one message", c.x.total(0), 1);
    }

    private static void below500(Check c) {
        asked(c, 124);
        c.due("496", c.x.settle(), 496);
        c.due("none waits", c.x.total(0), 0);
        c.due("answered", c.x.total(3), 124);
    }

    private static void exactly500(Check c) {
        asked(c, 125);
        c.due("500", c.x.settle(), 500);
        c.due("none waits", c.x.total(0), 0);
        c.due("answered", c.x.total(3), 125);
        c.due("no more", c.x.settle(), 0);
    }

    private static void above500(Check c) {
        asked(c, 126);
        c.due("500", c.x.settle(), 500);
        c.due("one waits on", c.x.total(0), 1);
        c.due("it is the fetch of the last one", c.message(0), "[0, 5, 1, 126, 1, 0, 0, 15, 0, 0, 1, 0]");
        c.due("answered", c.x.total(3), 125);
        c.due("the others", c.x.settle(), 4);
        c.due("all are answered", c.x.total(3), 126);
    }
}
