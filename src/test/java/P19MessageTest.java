/** Promise 19: message. */
public final class P19MessageTest {
    public static void main(String[] args) {
        Check c = new Check("promise 19");
        c.due("none waits", c.x.message(0, 0), -1);
        c.put("PUT /2\nlength: 90\nvary: accept-encoding\ncache-control: max-age=5\n\n");
        c.put("PUT /2\nlength: 90\nvary: accept-encoding\ncache-control: max-age=5\n\n");
        c.x.purge(0, 5);
        c.x.settle();
        c.ask("GET /2/3\naccept-language: fr\naccept-encoding: gzip\nrange: bytes=20-70\ncache-control: no-cache\n\n");
        int[] wrong = {-1, 12, Integer.MIN_VALUE, Integer.MAX_VALUE};
        for (int what : wrong) {
            c.due("what " + what, c.x.message(0, what), -1);
        }
        int[] none = {-1, 1, 100, Integer.MIN_VALUE, Integer.MAX_VALUE};
        for (int k : none) {
            c.due("message " + k, c.x.message(k, 0), -1);
        }
        c.due("fetch", c.message(0), "[0, 3, 2, 1, 2, 3, 1, 4, 1, 1, 0, 6]");
        c.x.deliver(0);
        c.due("fetch of the parent", c.message(0), "[0, 2, 0, 1, 2, 3, 1, 4, 1, 1, 0, 6]");
        c.x.deliver(0);
        c.due("fill", c.message(0), "[1, 0, 2, 1, 2, 3, 200, 2, 1, 0, 0, 4]");
        c.x.settle();
        c.x.tick(5);
        c.ask("GET /2/3\naccept-encoding: gzip\nrange: bytes=20-70\n\n");
        c.due("fetch with what it has", c.message(0), "[0, 3, 2, 2, 2, 3, 1, 4, 1, 0, 2, 4]");
        c.x.purge(0, 31);
        c.x.purge(1, 7);
        c.due("purge of a path", c.message(1), "[2, 0, 1, 2, 31, 0, 0, 0, 0, 0, 0, 0]");
        c.due("purge of a key", c.message(12), "[2, 0, 6, 3, 7, 1, 0, 0, 0, 0, 0, 0]");
        c.x.deliver(12);
        c.due("ack", c.message(12), "[3, 6, 0, 3, 0, 0, 0, 0, 0, 0, 0, 0]");
        c.x.deliver(0);
        c.x.deliver(c.x.total(0) - 1);
        c.due("fill 304", c.message(c.x.total(0) - 1), "[1, 0, 2, 2, 2, 3, 304, 2, 3, 0, 0, 4]");

        hasOnlyWhatIsWhole(c);
        atMost100(c);
        c.end();
    }

    private static void hasOnlyWhatIsWhole(Check c) {
        c.fresh();
        c.put("PUT /1\nlength: 40\n\n");
        c.get("GET /1\nrange: bytes=0-20\n\n");
        c.ask("GET /1\nrange: bytes=0-31\n\n");
        c.due("all blocks asked for", c.x.message(0, 10), 1);
        c.x.settle();
        c.ask("GET /1\nrange: bytes=0-32\n\n");
        c.due("one is missing", c.x.message(0, 10), 0);
        c.x.settle();
        c.ask("GET /1\n\n");
        c.due("as far as its length goes", c.x.message(0, 10), 1);
        c.x.settle();
        c.ask("GET /1\nrange: bytes=200-\n\n");
        c.due("none of them is within its length", c.x.message(0, 10), 1);
        c.x.settle();
        c.x.purge(0, 2);
        c.x.settle();
        c.ask("GET /1\n\n");
        c.due("its mark is below seen", c.x.message(0, 10), 0);
    }

    private static void atMost100(Check c) {
        c.fresh();
        for (int i = 0; i < 16; i++) {
            c.x.purge(0, 0);
        }
        c.ask("GET /1\n\n");
        c.x.purge(1, 3);
        c.due("100 wait", c.x.total(0), 100);
        c.due("three are lost", c.x.total(4), 3);
        c.due("the last one", c.message(99), "[2, 0, 3, 17, 3, 1, 0, 0, 0, 0, 0, 0]");
        c.due("none behind", c.message(100), "[-1, -1, -1, -1, -1, -1, -1, -1, -1, -1, -1, -1]");
        int r = c.ask("GET /2\n\n");
        c.due("a fetch that is lost", c.x.total(4), 4);
        c.due("is out all the same", c.x.node(6, 6), 1);
        c.x.deliver(0);
        c.due("there is room for what comes by one", c.message(99), "[3, 1, 0, 1, 0, 0, 0, 0, 0, 0, 0, 0]");
        c.x.tick(10);
        c.due("it fails", c.x.answer(r, 0), 504);
    }
}
