/** Promise 18: entry. */
public final class P18EntryTest {
    public static void main(String[] args) {
        Check c = new Check("promise 18");
        c.put("PUT /1\n\n");
        c.put("PUT /1\nlength: 100\nvary: accept-language\ncache-control: max-age=20\n\n");
        c.x.purge(0, 9);
        c.x.settle();
        c.get("GET /1\naccept-language: it\nrange: bytes=20-40\n\n");
        c.x.tick(4);
        c.due("the entry", c.entry(5, 1, 0, 3), "[2, 4, 2, 1, 0, 0, 1]");
        c.due("at the parent", c.entry(1, 1, 0, 3), "[2, 4, 2, 1, 0, 0, 1]");
        c.due("blocks", c.blocks(5, 1, 0, 3), "0110000000000000");
        wrongOnes(c);
        c.get("GET /1\naccept-language: it\nrange: bytes=20-40\n\n");
        c.due("used", c.entry(5, 1, 0, 3), "[2, 4, 2, 1, 1, 0, 1]");
        c.get("GET /1\naccept-language: fr\n\n");
        c.due("another which", c.entry(5, 1, 0, 2), "[2, 0, 7, 1, 0, 0, 1]");
        c.due("all its blocks", c.blocks(5, 1, 0, 2), "1111111000000000");
        c.get("GET /1\n\n");
        c.due("a third one", c.entry(5, 1, 0, 0), "[2, 0, 7, 1, 0, 1, 1]");
        c.get("GET /1\naccept-language: fr\n\n");
        c.due("the second in kept", c.entry(5, 1, 0, 2), "[2, 0, 7, 1, 1, 1, 1]");
        c.due("the third then", c.entry(5, 1, 0, 0), "[2, 0, 7, 1, 0, 0, 1]");
        c.x.fail(5);
        c.due("none of a node that is down", c.x.entry(5, 1, 0, 3, 0), -1);
        ages(c);
        noBlocks(c);
        c.end();
    }

    private static void wrongOnes(Check c) {
        int[] what = {-1, 7, 8, 15, 32, Integer.MIN_VALUE, Integer.MAX_VALUE};
        for (int w : what) {
            c.due("what " + w, c.x.entry(5, 1, 0, 3, w), -1);
        }
        int[][] none = {{0, 1, 0, 3}, {7, 1, 0, 3}, {-1, 1, 0, 3}, {4, 1, 0, 3}, {5, 2, 0, 3}, {5, 1, 1, 3}, {5, 1, 0, 2},
            {5, 1, 0, 7}, {5, -1, 0, 3}, {5, 32, 0, 3}, {5, 1, -1, 3}, {5, 1, 4, 3}, {5, 1, 0, -1}, {5, 1, 0, 8},
            {Integer.MAX_VALUE, Integer.MAX_VALUE, Integer.MAX_VALUE, Integer.MAX_VALUE},
            {Integer.MIN_VALUE, Integer.MIN_VALUE, Integer.MIN_VALUE, Integer.MIN_VALUE}};
        for (int[] n : none) {
            c.due("entry " + n[0] + ", " + n[1] + ", " + n[2] + ", " + n[3], c.x.entry(n[0], n[1], n[2], n[3], 0), -1);
        }
    }

    /** Ages grow on the way and in stores; a fill makes them new. */
    private static void ages(Check c) {
        c.fresh();
        c.put("PUT /1\nlength: 20\ncache-control: max-age=9\n\n");
        c.get("GET /1\n\n");
        c.x.tick(7);
        c.x.fail(5);
        c.x.back(5);
        c.ask("GET /1\n\n");
        c.x.deliver(0);
        c.x.tick(1);
        c.x.deliver(0);
        c.due("age at the edge", c.x.entry(5, 1, 0, 0, 1), 8);
        c.x.tick(1);
        c.due("and at the next tick", c.x.entry(5, 1, 0, 0, 1), 9);
        c.get("GET /1\n\n");
        c.due("new again", c.entry(5, 1, 0, 0), "[1, 0, 2, 0, 0, 0, 0]");
    }

    private static void noBlocks(Check c) {
        c.fresh();
        c.put("PUT /1\nlength: 16\ncache-control: max-age=9\n\n");
        c.get("GET /1\nrange: bytes=100-120\n\n");
        c.due("an entry without blocks", c.entry(5, 1, 0, 0), "[1, 0, 0, 0, 0, 0, 0]");
        c.due("its size", c.x.node(5, 2), 16);
        c.get("GET /1\n\n");
        c.due("a length of 16 is one block", c.blocks(5, 1, 0, 0), "1000000000000000");
        c.due("size then", c.x.node(5, 2), 32);
        c.fresh();
        c.put("PUT /1\nlength: 241\n\n");
        c.get("GET /1\n\n");
        c.due("241 bytes: 16 blocks", c.blocks(5, 1, 0, 0), "1111111111111111");
        c.due("how many", c.x.entry(5, 1, 0, 0, 2), 16);
    }
}
