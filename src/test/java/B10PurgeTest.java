import java.io.IOException;

/** Promise 10, purge: the sentences that name a boundary case. */
public final class B10PurgeTest {
    private static final String PURGE = "A PURGE of a PATH (by 0), or of a key (by 1: 0 a .. 7 h): its number; "
        + "NONE for another one, or if 60 have been.";
    private static final String GOES = "goes to all nodes that are UP, 1 to 6; where it comes all ENTRIES of that PATH, "
        + "or with that key, go; SEEN becomes its number, if that is more; an ACK goes to the origin, which counts it.";
    private static final String ORDER = "THE ORDER is the number of the latest PURGE (0 at first).";

    public static void main(String[] args) throws IOException {
        Boundary b = new Boundary(10);
        firstAndLastPath(b.of(PURGE));
        firstAndLastKey(b.of(PURGE));
        anotherOne(b.of(PURGE));
        the60th(b.of(PURGE));
        the61st(b.of(PURGE));
        refusedOnesDoNotCount(b.of(PURGE));
        allAreUp(b.of(GOES));
        someAreDown(b.of(GOES));
        noneIsUp(b.of(GOES));
        entriesThatGo(b.of(GOES));
        nothingToGo(b.of(GOES));
        seenOnlyGrows(b.of(GOES));
        orderGrows(b.of(ORDER));
        b.end();
    }

    private static void firstAndLastPath(Check c) {
        c.due("path 0", c.x.purge(0, 0), 1);
        c.due("its message", c.message(0), "[2, 0, 1, 1, 0, 0, 0, 0, 0, 0, 0, 0]");
        c.due("path 31", c.x.purge(0, 31), 2);
        c.due("its message", c.message(6), "[2, 0, 1, 2, 31, 0, 0, 0, 0, 0, 0, 0]");
    }

    private static void firstAndLastKey(Check c) {
        c.due("key a", c.x.purge(1, 0), 1);
        c.due("its message", c.message(0), "[2, 0, 1, 1, 0, 1, 0, 0, 0, 0, 0, 0]");
        c.due("key h", c.x.purge(1, 7), 2);
        c.due("its message", c.message(6), "[2, 0, 1, 2, 7, 1, 0, 0, 0, 0, 0, 0]");
    }

    private static void anotherOne(Check c) {
        int[][] none = {{0, -1}, {0, 32}, {1, -1}, {1, 8}, {1, 31}, {-1, 0}, {2, 0}, {0, Integer.MIN_VALUE}, {0, Integer.MAX_VALUE},
            {1, Integer.MIN_VALUE}, {1, Integer.MAX_VALUE}, {Integer.MIN_VALUE, 0}, {Integer.MAX_VALUE, 0}};
        String before = c.state();
        for (int[] one : none) {
            c.due("purge " + one[0] + ", " + one[1], c.x.purge(one[0], one[1]), -1);
        }
        c.due("nothing changed", c.state(), before);
        c.due("the first number", c.x.purge(0, 1), 1);
    }

    private static void many(Check c, int count) {
        for (int i = 1; i <= count; i++) {
            c.due("purge " + i, c.x.purge(0, 9), i);
            c.x.settle();
        }
    }

    private static void the60th(Check c) {
        c.put("PUT /1\ncache-control: max-age=99\n\n");
        many(c, 59);
        c.get("GET /1\n\n");
        c.due("the 60th", c.x.purge(0, 1), 60);
        c.due("order", c.x.total(1), 60);
        c.x.settle();
        c.due("it works", c.x.node(5, 1) + c.x.node(1, 1), 0);
        c.due("acks", c.x.total(5), 6);
        c.due("seen", c.x.node(5, 8), 60);
        c.get("GET /1\n\n");
        c.due("mark", c.x.entry(5, 1, 0, 0, 3), 60);
    }

    private static void the61st(Check c) {
        many(c, 60);
        String before = c.state();
        c.due("the 61st", c.x.purge(0, 9), -1);
        c.due("by key", c.x.purge(1, 0), -1);
        c.due("nothing changed", c.state(), before);
        c.due("acks of the 60th stay", c.x.total(5), 6);
    }

    private static void refusedOnesDoNotCount(Check c) {
        for (int i = 0; i < 70; i++) {
            c.due("another one", c.x.purge(0, 32), -1);
        }
        many(c, 60);
        c.due("the 61st", c.x.purge(0, 9), -1);
    }

    private static void allAreUp(Check c) {
        c.x.purge(0, 5);
        c.due("six", c.x.total(0), 6);
        for (int n = 1; n <= 6; n++) {
            c.due("to " + n, c.message(n - 1), "[2, 0, " + n + ", 1, 5, 0, 0, 0, 0, 0, 0, 0]");
        }
    }

    private static void someAreDown(Check c) {
        c.x.fail(1);
        c.x.fail(6);
        c.x.purge(0, 5);
        c.due("four", c.x.total(0), 4);
        c.due("from 2 on", c.x.message(0, 2), 2);
        c.due("to 5", c.x.message(3, 2), 5);
        c.x.back(1);
        c.x.settle();
        c.due("four acks", c.x.total(5), 4);
    }

    private static void noneIsUp(Check c) {
        for (int n = 1; n <= 6; n++) {
            c.x.fail(n);
        }
        c.due("its number", c.x.purge(0, 5), 1);
        c.due("no message", c.x.total(0), 0);
        c.due("order", c.x.total(1), 1);
        c.due("no ack", c.x.total(5), 0);
    }

    private static void entriesThatGo(Check c) {
        c.put("PUT /1\nkeys: a h\nvary: accept-language\ncache-control: max-age=99\n\n");
        c.put("PUT /6\nkeys: h\ncache-control: max-age=99\n\n");
        c.put("PUT /18\ncache-control: max-age=99\n\n");
        c.get("GET /1\n\n");
        c.get("GET /1\naccept-language: it\n\n");
        c.get("GET /1\n\n");
        c.get("GET /6\n\n");
        c.get("GET /18\n\n");
        c.due("four, one of them kept", c.x.node(5, 1) * 10 + c.x.node(5, 3), 41);
        c.x.purge(1, 1);
        c.x.settle();
        c.due("none with key b", c.x.node(5, 1), 4);
        c.x.purge(1, 0);
        c.x.settle();
        c.due("two with key a", c.x.node(5, 1) * 10 + c.x.node(5, 3), 20);
        c.x.purge(1, 7);
        c.x.settle();
        c.due("one with key h", c.x.node(5, 1), 1);
        c.x.purge(0, 18);
        c.x.settle();
        c.due("one of path 18", c.x.node(5, 1), 0);
        c.due("at the parent, too", c.x.node(1, 1), 0);
    }

    private static void nothingToGo(Check c) {
        c.x.purge(0, 0);
        c.due("all", c.x.settle(), 12);
        c.due("acks all the same", c.x.total(5), 6);
        c.due("seen all the same", c.x.node(3, 8), 1);
    }

    private static void seenOnlyGrows(Check c) {
        c.x.purge(0, 0);
        c.x.purge(0, 0);
        c.x.deliver(6);
        c.due("2 first", c.x.node(1, 8), 2);
        c.x.deliver(0);
        c.due("1 is not more", c.x.node(1, 8), 2);
        c.x.deliver(0);
        c.due("1 first", c.x.node(2, 8), 1);
        c.x.deliver(4);
        c.due("2 is more", c.x.node(2, 8), 2);
    }

    private static void orderGrows(Check c) {
        c.due("0 at first", c.x.total(1), 0);
        c.x.purge(0, 0);
        c.due("before it comes anywhere", c.x.total(1), 1);
        c.x.purge(1, 0);
        c.due("of both kinds", c.x.total(1), 2);
    }
}
