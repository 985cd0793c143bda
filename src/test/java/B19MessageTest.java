import java.io.IOException;

/** Promise 19, message: the sentences that name a boundary case. */
public final class B19MessageTest {
    private static final String NONE = "NONE if there is none such, or for another what (0 where a message has none).";
    private static final String MOST = "MESSAGES, at most 100, wait in the order in which they were sent (one more is lost): "
        + "FETCH, FILL, PURGE, ACK.";

    public static void main(String[] args) throws IOException {
        Boundary b = new Boundary(19);
        noneSuch(b.of(NONE));
        anotherWhat(b.of(NONE));
        zerosOfAFetch(b.of(NONE));
        zerosOfAFill(b.of(NONE));
        zerosOfAFillWithoutAThing(b.of(NONE));
        zerosOfAPurgeAndAnAck(b.of(NONE));
        greatestOfAFetch(b.of(NONE));
        greatestOfAFill(b.of(NONE));
        the100th(b.of(MOST));
        the101st(b.of(MOST));
        lostFetchIsOut(b.of(MOST));
        lostFill(b.of(MOST));
        roomAgain(b.of(MOST));
        inTheirOrder(b.of(MOST));
        b.end();
    }

    private static void noneSuch(Check c) {
        c.due("none waits", c.x.message(0, 0), -1);
        c.ask("GET /1\n\n");
        c.due("0", c.x.message(0, 0), 0);
        int[] none = {-1, 1, 99, 100, Integer.MIN_VALUE, Integer.MAX_VALUE};
        for (int k : none) {
            for (int what = 0; what <= 11; what++) {
                c.due("message " + k + ", " + what, c.x.message(k, what), -1);
            }
        }
    }

    private static void anotherWhat(Check c) {
        c.put("PUT /1\n\n");
        c.ask("GET /1\n\n");
        c.x.deliver(0);
        c.x.deliver(0);
        c.ask("GET /2\n\n");
        c.x.purge(0, 1);
        c.x.deliver(2);
        c.due("a fill, a fetch, purges, an ack", c.x.message(0, 0) * 1000 + c.x.message(1, 0) * 100 + c.x.message(2, 0) * 10
            + c.x.message(7, 0), 1023);
        int[] wrong = {-1, 12, 13, Integer.MIN_VALUE, Integer.MAX_VALUE};
        for (int what : wrong) {
            for (int k = 0; k < 8; k++) {
                c.due("message " + k + ", " + what, c.x.message(k, what), -1);
            }
        }
    }

    private static void zerosOfAFetch(Check c) {
        c.ask("GET /0\n\n");
        c.due("the least fetch", c.message(0), "[0, 4, 1, 1, 0, 0, 0, 15, 0, 0, 0, 0]");
        c.x.deliver(0);
        c.due("of a parent", c.message(0), "[0, 1, 0, 1, 0, 0, 0, 15, 0, 0, 0, 0]");
    }

    private static void zerosOfAFill(Check c) {
        c.put("PUT /0\n\n");
        c.ask("GET /0\naccept-language: it\naccept-encoding: gzip\ncache-control: no-cache\n\n");
        c.due("forced, with 7", c.message(0), "[0, 4, 1, 1, 0, 0, 0, 15, 0, 1, 0, 7]");
        c.x.deliver(0);
        c.x.deliver(0);
        c.due("a fill is not forced, has no version had, and which 0", c.message(0), "[1, 0, 1, 1, 0, 0, 200, 1, 0, 0, 0, 0]");
    }

    private static void zerosOfAFillWithoutAThing(Check c) {
        c.x.purge(0, 9);
        c.x.settle();
        c.ask("GET /31/3\naccept-language: it\n\n");
        c.x.deliver(0);
        c.x.deliver(0);
        c.due("404", c.message(0), "[1, 0, 1, 1, 31, 3, 404, 0, 0, 0, 0, 0]");
        c.x.deliver(0);
        c.due("404 of the parent", c.message(0), "[1, 1, 6, 1, 31, 3, 404, 0, 0, 0, 0, 0]");
        c.fresh();
        c.ask("GET /31/3\n\n");
        c.x.deliver(0);
        c.x.lose(0);
        c.x.tick(10);
        c.due("504", c.message(0), "[1, 1, 6, 1, 31, 3, 504, 0, 0, 0, 0, 0]");
    }

    private static void zerosOfAPurgeAndAnAck(Check c) {
        c.x.purge(0, 31);
        c.x.purge(1, 7);
        c.due("of a path", c.message(0), "[2, 0, 1, 1, 31, 0, 0, 0, 0, 0, 0, 0]");
        c.due("of a key", c.message(11), "[2, 0, 6, 2, 7, 1, 0, 0, 0, 0, 0, 0]");
        c.x.deliver(11);
        c.due("an ack", c.message(11), "[3, 6, 0, 2, 0, 0, 0, 0, 0, 0, 0, 0]");
    }

    private static void greatestOfAFetch(Check c) {
        c.put("PUT /31\nlength: 255\n\n");
        c.get("GET /31/3\n\n");
        c.ask("GET /31/3\nrange: bytes=255-\naccept-language: it\naccept-encoding: gzip\ncache-control: no-cache\n\n");
        c.due("the greatest of each", c.message(0), "[0, 6, 1, 2, 31, 3, 15, 15, 0, 1, 1, 7]");
    }

    private static void greatestOfAFill(Check c) {
        c.put("PUT /31\nlength: 255\nvary: accept-language, accept-encoding\n\n");
        for (int i = 0; i < 60; i++) {
            c.x.purge(0, 0);
            c.x.settle();
        }
        c.ask("GET /31/3\nrange: bytes=255-\naccept-language: it\naccept-encoding: gzip\ncache-control: no-cache\n\n");
        c.x.deliver(0);
        c.due("the parent's fetch", c.message(0), "[0, 1, 0, 1, 31, 3, 15, 15, 60, 1, 0, 7]");
        c.x.deliver(0);
        c.due("the origin's fill", c.message(0), "[1, 0, 1, 1, 31, 3, 200, 1, 60, 0, 0, 7]");
        c.x.deliver(0);
        c.due("the parent's fill", c.message(0), "[1, 1, 6, 1, 31, 3, 200, 1, 60, 0, 0, 7]");
    }

    /** 96 messages wait. */
    private static void sixteenPurges(Check c) {
        for (int i = 0; i < 16; i++) {
            c.x.purge(0, 0);
        }
        c.due("96 wait", c.x.total(0), 96);
    }

    private static void the100th(Check c) {
        sixteenPurges(c);
        c.x.fail(1);
        c.x.fail(2);
        c.x.purge(1, 5);
        c.due("100 wait", c.x.total(0), 100);
        c.due("none is lost", c.x.total(4), 0);
        c.due("the 100th", c.message(99), "[2, 0, 6, 17, 5, 1, 0, 0, 0, 0, 0, 0]");
        c.due("there is no 101st", c.x.message(100, 0), -1);
    }

    private static void the101st(Check c) {
        sixteenPurges(c);
        c.x.fail(1);
        c.x.purge(1, 5);
        c.due("100 wait", c.x.total(0), 100);
        c.due("one is lost", c.x.total(4), 1);
        c.due("the 100th", c.message(99), "[2, 0, 5, 17, 5, 1, 0, 0, 0, 0, 0, 0]");
        c.x.settle();
        c.due("four acks", c.x.total(5), 4);
        c.due("node 6 did not see it", c.x.node(6, 8), 16);
    }

    private static void lostFetchIsOut(Check c) {
        sixteenPurges(c);
        c.x.purge(0, 0);
        c.due("two are lost", c.x.total(4), 2);
        int r = c.ask("GET /1\n\n");
        c.due("a third is", c.x.total(4), 3);
        c.due("no message of it", c.x.total(0), 100);
        c.due("the fetch is out, the request waits", c.x.node(5, 6) * 10 + c.x.node(5, 7), 11);
        c.x.tick(10);
        c.due("it fails", c.x.answer(r, 0), 504);
        c.due("a strike", c.x.node(5, 9), 1);
    }

    /** 98 messages and two FETCHES of EDGES that wait at one parent: of their two 504 one more than room is lost. */
    private static void lostFill(Check c) {
        c.ask("GET /1\n\n");
        c.ask("GET /6\n\n");
        c.x.deliver(0);
        c.x.deliver(0);
        c.x.lose(0);
        c.x.lose(0);
        sixteenPurges(c);
        c.x.fail(2);
        c.x.fail(3);
        c.x.fail(4);
        c.x.purge(0, 0);
        c.due("99 wait", c.x.total(0), 99);
        c.x.tick(10);
        c.due("100 wait", c.x.total(0), 100);
        c.due("the first 504", c.message(99), "[1, 1, 5, 1, 1, 0, 504, 0, 0, 0, 0, 0]");
        c.due("the second is lost", c.x.total(4), 3);
    }

    private static void roomAgain(Check c) {
        sixteenPurges(c);
        c.x.purge(0, 0);
        c.x.deliver(50);
        c.due("an ack in its room", c.x.total(0), 100);
        c.due("it is the last", c.x.message(99, 0), 3);
        c.x.lose(0);
        c.ask("GET /1\n\n");
        c.due("a fetch in the next one", c.x.total(0), 100);
        c.due("it is the last then", c.x.message(99, 0), 0);
        c.due("two and one are lost", c.x.total(4), 3);
    }

    private static void inTheirOrder(Check c) {
        c.ask("GET /1\n\n");
        c.x.purge(0, 9);
        c.ask("GET /2\n\n");
        c.due("first", c.x.message(0, 4), 1);
        c.due("second", c.x.message(1, 4), 9);
        c.due("last", c.x.message(7, 4), 2);
        c.x.deliver(0);
        c.due("what comes by one is the last", c.message(7), "[0, 1, 0, 1, 1, 0, 0, 15, 0, 0, 0, 0]");
        c.due("the others move up", c.x.message(0, 4), 9);
    }
}
