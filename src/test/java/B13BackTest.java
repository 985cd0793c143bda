import java.io.IOException;

/** Promise 13, back: the sentences that name a boundary case. */
public final class B13BackTest {
    private static final String BACK = "A node RETURNS: true; false if it is none of 1 .. 6, or UP.";
    private static final String UP = "One that RETURNS is UP, SEEN is the ORDER.";
    private static final String TRUSTED = "a PARENT that RETURNS has none against it, and is SHUNNED by none.";

    public static void main(String[] args) throws IOException {
        Boundary b = new Boundary(13);
        firstAndLastNode(b.of(BACK));
        noneOfThem(b.of(BACK));
        upAlready(b.of(BACK));
        seenIsTheOrder(b.of(UP));
        seenIsTheLastOrder(b.of(UP));
        purgeOfBefore(b.of(UP));
        strikesAgainstAParent(b.of(TRUSTED));
        strikesAgainstTheOther(b.of(TRUSTED));
        b.end();
    }

    private static void firstAndLastNode(Check c) {
        for (int n = 1; n <= 6; n++) {
            c.x.fail(n);
        }
        for (int n = 1; n <= 6; n++) {
            c.due("back " + n, c.x.back(n), true);
            c.due("up " + n, c.x.node(n, 0), 1);
        }
    }

    private static void noneOfThem(Check c) {
        for (int n = 1; n <= 6; n++) {
            c.x.fail(n);
        }
        String before = c.state();
        int[] none = {0, 7, -1, Integer.MIN_VALUE, Integer.MAX_VALUE};
        for (int n : none) {
            c.due("back " + n, c.x.back(n), false);
        }
        c.due("nothing changed", c.state(), before);
    }

    private static void upAlready(Check c) {
        c.put("PUT /1\n\n");
        c.get("GET /1\n\n");
        c.x.purge(0, 9);
        String before = c.state();
        for (int n = 1; n <= 6; n++) {
            c.due("back " + n, c.x.back(n), false);
        }
        c.due("nothing changed, seen neither", c.state(), before);
        c.x.fail(2);
        c.due("back 2", c.x.back(2), true);
        c.due("back 2 again", c.x.back(2), false);
    }

    private static void seenIsTheOrder(Check c) {
        c.x.fail(3);
        c.x.back(3);
        c.due("without a purge", c.x.node(3, 8), 0);
        c.x.fail(3);
        c.x.purge(0, 1);
        c.x.purge(0, 1);
        c.due("while it is down", c.x.node(3, 8), 0);
        c.x.back(3);
        c.due("behind two", c.x.node(3, 8), 2);
        c.due("of those that were up it is 0 yet", c.x.node(4, 8), 0);
    }

    private static void seenIsTheLastOrder(Check c) {
        c.x.fail(5);
        for (int i = 0; i < 60; i++) {
            c.x.purge(0, 9);
            c.x.settle();
        }
        c.x.back(5);
        c.due("60", c.x.node(5, 8), 60);
        c.ask("GET /1\n\n");
        c.due("least mark 60", c.x.message(0, 8), 60);
        c.put("PUT /1\n\n");
        c.x.settle();
        c.due("mark 60 is enough", c.x.answer(0, 0), 200);
    }

    /** A purge that was sent before the fall comes behind the return: SEEN does not fall. */
    private static void purgeOfBefore(Check c) {
        c.x.purge(0, 1);
        c.x.fail(3);
        c.x.purge(0, 1);
        c.x.back(3);
        c.due("seen 2", c.x.node(3, 8), 2);
        c.x.deliver(2);
        c.due("purge 1 came", c.latest(), "[3, 3, 0, 1, 0, 0, 0, 0, 0, 0, 0, 0]");
        c.due("seen 2 yet", c.x.node(3, 8), 2);
    }

    private static void strikesAgainstAParent(Check c) {
        c.ask("GET /1\n\n");
        c.ask("GET /6\n\n");
        c.ask("GET /18\n\n");
        c.ask("GET /0\n\n");
        c.ask("GET /24\n\n");
        c.ask("GET /5\n\n");
        c.x.tick(10);
        c.due("edge 5 shuns it", c.x.node(5, 9) * 100 + c.x.node(5, 11), 130);
        c.due("a strike of each other one", c.x.node(3, 9) + c.x.node(4, 9) + c.x.node(6, 9), 3);
        c.x.fail(1);
        c.x.back(1);
        for (int n = 3; n <= 6; n++) {
            c.due("none of edge " + n, c.x.node(n, 9) + c.x.node(n, 11), 0);
        }
        c.ask("GET /1\n\n");
        c.due("it is asked again", c.x.message(c.x.total(0) - 1, 2), 1);
    }

    private static void strikesAgainstTheOther(Check c) {
        c.ask("GET /31\n\n");
        c.ask("GET /12/2\n\n");
        c.ask("GET /12/3\n\n");
        c.x.tick(10);
        c.due("parent 2 is shunned", c.node(5), "[1, 0, 0, 0, 0, 3, 0, 0, 0, 0, 1, 0, 30]");
        c.x.fail(1);
        c.x.back(1);
        c.x.fail(4);
        c.x.back(4);
        c.due("another one's return does not matter", c.node(5), "[1, 0, 0, 0, 0, 3, 0, 0, 0, 0, 1, 0, 30]");
        c.x.fail(2);
        c.due("nor its own fall", c.x.node(5, 12), 30);
        c.x.back(2);
        c.due("its own return does", c.node(5), "[1, 0, 0, 0, 0, 3, 0, 0, 0, 0, 0, 0, 0]");
    }
}
