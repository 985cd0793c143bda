import java.io.IOException;

/** Promise 20, total: the sentences that name a boundary case. */
public final class B20TotalTest {
    private static final String NONE = "NONE for another what.";
    private static final String LOST = "messages lost (by lose(), or one too many)";
    private static final String ACKS = "ACKS of the latest PURGE (of older ones none count)";
    private static final String COME = "requests that have come, 3: those ANSWERED";

    public static void main(String[] args) throws IOException {
        Boundary b = new Boundary(20);
        anotherWhat(b.of(NONE));
        lostByCallOrTooMany(b.of(LOST));
        goneIsNotLost(b.of(LOST));
        acksOfOlderOnes(b.of(ACKS));
        acksOfFewer(b.of(ACKS));
        noAckAtFirst(b.of(ACKS));
        answeredAtOnceAndLater(b.of(COME));
        atMost300(b.of(COME));
        b.end();
    }

    private static void anotherWhat(Check c) {
        int[] wrong = {-1, 7, 8, Integer.MIN_VALUE, Integer.MAX_VALUE};
        for (int what : wrong) {
            c.due("what " + what, c.x.total(what), -1);
        }
        for (int what = 0; what <= 6; what++) {
            c.due("what " + what, c.x.total(what), 0);
        }
    }

    private static void lostByCallOrTooMany(Check c) {
        c.ask("GET /1\n\n");
        c.x.lose(0);
        c.due("by lose", c.x.total(4), 1);
        c.x.lose(0);
        c.due("one that there is not", c.x.total(4), 1);
        for (int i = 0; i < 17; i++) {
            c.x.purge(0, 0);
        }
        c.due("two too many", c.x.total(4), 3);
        c.x.lose(99);
        c.due("by lose again", c.x.total(4), 4);
    }

    private static void goneIsNotLost(Check c) {
        c.ask("GET /1\n\n");
        c.x.fail(1);
        c.x.settle();
        c.due("to a node that is down", c.x.total(4), 0);
        c.x.fail(5);
        c.due("what waits at one that fails", c.x.total(4), 0);
    }

    private static void acksOfOlderOnes(Check c) {
        c.x.purge(0, 0);
        for (int i = 0; i < 6; i++) {
            c.x.deliver(0);
        }
        c.due("six acks wait", c.x.total(0), 6);
        for (int i = 0; i < 5; i++) {
            c.x.deliver(0);
        }
        c.due("five came", c.x.total(5), 5);
        c.x.purge(0, 0);
        c.due("none of the latest", c.x.total(5), 0);
        c.x.deliver(0);
        c.due("the sixth of the older one does not count", c.x.total(5), 0);
        c.x.settle();
        c.due("six of the latest", c.x.total(5), 6);
    }

    private static void acksOfFewer(Check c) {
        for (int n = 1; n <= 5; n++) {
            c.x.fail(n);
        }
        c.x.purge(0, 0);
        c.x.settle();
        c.due("one node", c.x.total(5), 1);
        c.x.fail(6);
        c.x.purge(0, 0);
        c.x.settle();
        c.due("no node", c.x.total(5), 0);
        c.x.back(6);
        c.x.purge(0, 0);
        c.x.deliver(0);
        c.x.fail(6);
        c.x.deliver(0);
        c.due("an ack of one that is down by now", c.x.total(5), 1);
    }

    private static void noAckAtFirst(Check c) {
        c.due("0", c.x.total(5), 0);
        c.x.purge(0, 32);
        c.due("one that is none", c.x.total(5), 0);
        c.x.purge(0, 0);
        c.x.deliver(0);
        c.due("before it comes to the origin", c.x.total(5), 0);
        c.x.deliver(5);
        c.due("when it comes", c.x.total(5), 1);
    }

    private static void answeredAtOnceAndLater(Check c) {
        c.x.ask();
        c.due("400", c.x.total(2) * 10 + c.x.total(3), 11);
        c.ask("GET /1\n\n");
        c.due("one waits", c.x.total(2) * 10 + c.x.total(3), 21);
        c.x.tick(10);
        c.due("504", c.x.total(2) * 10 + c.x.total(3), 22);
        c.ask("GET /1\n\n");
        c.x.fail(5);
        c.due("502", c.x.total(2) * 10 + c.x.total(3), 33);
    }

    private static void atMost300(Check c) {
        for (int i = 0; i < 305; i++) {
            c.x.ask();
        }
        c.due("come", c.x.total(2), 300);
        c.due("answered", c.x.total(3), 300);
    }
}
