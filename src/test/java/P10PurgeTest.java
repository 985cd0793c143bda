/** Promise 10: purge. */
public final class P10PurgeTest {
    public static void main(String[] args) {
        Check c = new Check("promise 10");
        wrongOnes(c);
        toAllThatAreUp(c);
        byPath(c);
        byKey(c);
        nothingOlderComesBack(c);
        refusedWithoutANodeToAsk(c);
        refusedByTheLastOne(c);
        refusedByKey(c);
        notRefused(c);
        forgottenByAFall(c);
        seenOnlyGrows(c);
        atMost60(c);
        c.end();
    }

    private static void wrongOnes(Check c) {
        int[][] none = {{0, -1}, {0, 32}, {1, -1}, {1, 8}, {2, 0}, {-1, 0}, {0, Integer.MAX_VALUE}, {1, Integer.MIN_VALUE}};
        for (int[] p : none) {
            c.due("purge " + p[0] + ", " + p[1], c.x.purge(p[0], p[1]), -1);
        }
        c.due("order", c.x.total(1), 0);
        c.due("no message", c.x.total(0), 0);
        c.due("path 0", c.x.purge(0, 0), 1);
        c.due("path 31", c.x.purge(0, 31), 2);
        c.due("key a", c.x.purge(1, 0), 3);
        c.due("key h", c.x.purge(1, 7), 4);
        c.due("order", c.x.total(1), 4);
    }

    private static void toAllThatAreUp(Check c) {
        c.fresh();
        c.x.fail(2);
        c.x.fail(5);
        c.x.purge(0, 7);
        int[] to = {1, 3, 4, 6};
        c.due("messages", c.x.total(0), 4);
        for (int k = 0; k < 4; k++) {
            c.due("message " + k, c.message(k), "[2, 0, " + to[k] + ", 1, 7, 0, 0, 0, 0, 0, 0, 0]");
        }
        c.x.purge(1, 6);
        c.due("by key", c.message(4), "[2, 0, 1, 2, 6, 1, 0, 0, 0, 0, 0, 0]");
        c.x.deliver(1);
        c.due("the ack", c.message(7), "[3, 3, 0, 1, 0, 0, 0, 0, 0, 0, 0, 0]");
        c.due("seen", c.x.node(3, 8), 1);
        c.due("not seen elsewhere", c.x.node(4, 8), 0);
        c.x.settle();
        c.due("seen everywhere", c.x.node(4, 8) + c.x.node(1, 8) + c.x.node(6, 8), 6);
        c.due("acks of the latest", c.x.total(5), 4);
    }

    private static void fill(Check c) {
        c.fresh();
        c.put("PUT /1\nlength: 9\nkeys: a c\ncache-control: max-age=90\n\n");
        c.put("PUT /2\nlength: 9\nkeys: c\ncache-control: max-age=90\n\n");
        c.put("PUT /3\nlength: 9\ncache-control: max-age=90\n\n");
        c.get("GET /1\n\n");
        c.get("GET /1/1\n\n");
        c.get("GET /1\n\n");
        c.get("GET /2\n\n");
        c.get("GET /3\n\n");
    }

    private static void byPath(Check c) {
        fill(c);
        c.x.purge(0, 1);
        c.due("before it comes", c.x.entry(5, 1, 0, 0, 0), 1);
        c.x.settle();
        c.due("gone from kept", c.x.entry(5, 1, 0, 0, 0), -1);
        c.due("gone, the other variant", c.x.entry(4, 1, 1, 0, 0), -1);
        c.due("gone at the parent", c.x.entry(1, 1, 0, 0, 0), -1);
        c.due("another path", c.x.entry(6, 2, 0, 0, 0), 1);
        c.due("another one", c.x.entry(4, 3, 0, 0, 0), 1);
        c.due("a miss then", c.x.answer(c.ask("GET /1\n\n"), 0), 0);
    }

    private static void byKey(Check c) {
        fill(c);
        c.x.purge(1, 2);
        c.x.settle();
        c.due("of two keys", c.x.entry(5, 1, 0, 0, 0), -1);
        c.due("of one key", c.x.entry(6, 2, 0, 0, 0), -1);
        c.due("at its parent", c.x.entry(2, 2, 0, 0, 0), -1);
        c.due("without keys", c.x.entry(4, 3, 0, 0, 0), 1);
        fill(c);
        c.x.purge(1, 1);
        c.x.settle();
        c.due("another key", c.x.entry(5, 1, 0, 0, 0) + c.x.entry(6, 2, 0, 0, 0), 2);
    }

    private static void nothingOlderComesBack(Check c) {
        c.fresh();
        c.put("PUT /1\nlength: 9\ncache-control: max-age=90\n\n");
        int r = c.ask("GET /1\n\n");
        c.x.deliver(0);
        c.x.deliver(0);
        c.x.deliver(0);
        c.due("a fill waits for the edge", c.message(0), "[1, 1, 5, 1, 1, 0, 200, 1, 0, 0, 0, 0]");
        c.x.purge(0, 1);
        c.x.tick(4);
        // the purge overtakes the fill at the edge alone
        c.x.deliver(5);
        int misses = c.x.node(5, 5);
        c.x.deliver(0);
        c.due("it is refused", c.x.node(5, 1), 0);
        int last = c.x.total(0) - 1;
        c.due("the same fetch again", c.message(last), "[0, 5, 1, 2, 1, 0, 0, 15, 1, 0, 0, 0]");
        c.due("no miss", c.x.node(5, 5), misses);
        c.due("it waits on", c.x.node(5, 7), 1);
        c.x.tick(9);
        c.due("ten ticks from then on", c.x.answer(r, 0), 0);
        c.x.deliver(last);
        last = c.x.total(0) - 1;
        c.due("the parent's entry is too old", c.message(last), "[0, 1, 0, 2, 1, 0, 0, 15, 0, 0, 1, 0]");
        c.x.tick(1);
        c.due("then it fails", c.x.answer(r, 0), 504);
    }

    private static void refusedWithoutANodeToAsk(Check c) {
        c.fresh();
        c.put("PUT /1\nlength: 9\nvary: accept-language\ncache-control: max-age=90\n\n");
        int a = c.ask("GET /1\n\n");
        int b = c.ask("GET /1\naccept-language: de\n\n");
        c.x.deliver(0);
        c.x.deliver(0);
        c.x.deliver(0);
        c.x.purge(0, 1);
        c.x.deliver(5);
        c.x.fail(1);
        c.x.fail(2);
        c.x.tick(2);
        c.x.deliver(0);
        c.due("it fails", c.answer(a), "[504, 0, 0, 0, 0, 21, 2, 5, 0]");
        c.due("for all that wait", c.x.answer(b, 0), 504);
        c.due("nothing is out", c.node(5), "[1, 0, 0, 0, 0, 1, 0, 0, 1, 0, 0, 0, 0]");
    }

    private static void refusedByTheLastOne(Check c) {
        c.fresh();
        c.put("PUT /1\nlength: 9\ncache-control: max-age=90\n\n");
        for (int i = 0; i < 59; i++) {
            c.x.purge(0, 2);
            c.x.settle();
        }
        int r = c.ask("GET /1\n\n");
        c.x.deliver(0);
        c.x.deliver(0);
        c.due("mark 59", c.x.message(0, 8), 59);
        c.due("the 60th", c.x.purge(0, 1), 60);
        c.x.deliver(1);
        c.x.deliver(0);
        c.due("refused", c.message(c.x.total(0) - 1), "[0, 1, 0, 2, 1, 0, 0, 15, 60, 0, 0, 0]");
        c.x.settle();
        c.due("answered", c.x.answer(r, 0), 200);
        c.due("mark 60", c.x.entry(5, 1, 0, 0, 3), 60);
    }

    private static void refusedByKey(Check c) {
        c.fresh();
        c.put("PUT /1\nlength: 9\nkeys: d e\ncache-control: max-age=90\n\n");
        int r = c.ask("GET /1\ncache-control: no-cache\nrange: bytes=0-4\n\n");
        c.x.deliver(0);
        c.x.deliver(0);
        c.x.purge(1, 4);
        c.x.deliver(1);
        c.x.deliver(0);
        c.due("refused at the parent", c.x.node(1, 1), 0);
        c.due("the same once more", c.message(c.x.total(0) - 1), "[0, 1, 0, 2, 1, 0, 0, 0, 1, 1, 0, 0]");
        c.x.settle();
        c.due("answered", c.x.answer(r, 0), 206);
        c.due("mark", c.x.entry(5, 1, 0, 0, 3), 1);
    }

    private static void notRefused(Check c) {
        c.fresh();
        c.put("PUT /1\nlength: 9\nkeys: d e\ncache-control: max-age=90\n\n");
        c.ask("GET /1\n\n");
        c.x.deliver(0);
        c.x.deliver(0);
        c.x.purge(1, 5);
        c.x.purge(0, 2);
        c.x.deliver(1);
        c.x.deliver(6);
        c.due("both came to the parent", c.x.node(1, 8), 2);
        c.x.deliver(0);
        c.due("taken in all the same", c.entry(1, 1, 0, 0), "[1, 0, 1, 0, 0, 0, 0]");
        // a purge that comes later takes what is newer than itself, too
        c.fresh();
        c.put("PUT /1\nlength: 9\ncache-control: max-age=90\n\n");
        c.x.purge(0, 1);
        int r = c.ask("GET /1\n\n");
        for (int i = 0; i < 4; i++) {
            c.x.deliver(6);
        }
        c.due("answered with mark 1", c.x.entry(5, 1, 0, 0, 3), 1);
        c.due("answered", c.x.answer(r, 0), 200);
        c.x.deliver(4);
        c.due("gone by the purge", c.x.entry(5, 1, 0, 0, 3), -1);
    }

    private static void forgottenByAFall(Check c) {
        c.fresh();
        c.put("PUT /1\nlength: 9\ncache-control: max-age=90\n\n");
        c.x.purge(0, 1);
        c.x.settle();
        c.x.fail(5);
        c.due("seen of one that is down", c.x.node(5, 8), 0);
        c.x.purge(0, 1);
        c.x.purge(0, 3);
        c.x.back(5);
        c.due("seen of one that is back", c.x.node(5, 8), 3);
        c.ask("GET /1\n\n");
        int last = c.x.total(0) - 1;
        c.due("least mark", c.x.message(last, 8), 3);
        c.x.settle();
        c.due("mark", c.x.entry(5, 1, 0, 0, 3), 3);
    }

    private static void seenOnlyGrows(Check c) {
        c.fresh();
        c.x.purge(0, 1);
        c.x.purge(0, 2);
        c.x.deliver(8);
        c.due("the second first", c.x.node(3, 8), 2);
        c.x.deliver(2);
        c.due("the first then", c.x.node(3, 8), 2);
        c.due("both acks", c.x.message(10, 3) * 10 + c.x.message(11, 3), 21);
    }

    private static void atMost60(Check c) {
        c.fresh();
        for (int i = 1; i <= 60; i++) {
            c.due("purge", c.x.purge(i % 2, i % 8), i);
        }
        c.due("100 messages wait", c.x.total(0), 100);
        c.due("the others are lost", c.x.total(4), 260);
        c.due("the 61st", c.x.purge(0, 1), -1);
        c.due("order", c.x.total(1), 60);
        c.due("nothing more is lost", c.x.total(4), 260);
        c.x.settle();
        c.due("no ack of the latest", c.x.total(5), 0);
        c.due("seen of node 1", c.x.node(1, 8), 17);
        c.due("seen of node 5", c.x.node(5, 8), 16);
    }
}
