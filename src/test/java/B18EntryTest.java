import java.io.IOException;

/** Promise 18, entry: the sentences that name a boundary case. */
public final class B18EntryTest {
    private static final String NONE = "NONE if there is none such, or for another what.";
    private static final String WHAT = "which one of its part, from the oldest (0) on, 6: VARY, 16 + b: 1 if BLOCK b is there.";
    private static final String AGE = "Its age is AGE and the ticks since.";
    private static final String BLOCK = "BLOCK b of it: bytes 16 * b .. 16 * b + 15, as far as the length goes.";

    public static void main(String[] args) throws IOException {
        Boundary b = new Boundary(18);
        anotherWhat(b.of(NONE));
        noneSuch(b.of(NONE));
        greatestOnes(b.of(NONE));
        places(b.of(WHAT));
        firstAndLastBlock(b.of(WHAT));
        agesGrow(b.of(AGE));
        blocksByLength(b.of(BLOCK));
        blocksByRange(b.of(BLOCK));
        b.end();
    }

    private static void anotherWhat(Check c) {
        c.put("PUT /1\nlength: 255\n\n");
        c.get("GET /1\n\n");
        for (int what = 0; what <= 6; what++) {
            c.due("what " + what, c.x.entry(5, 1, 0, 0, what) >= 0, true);
        }
        for (int what = 16; what <= 31; what++) {
            c.due("what " + what, c.x.entry(5, 1, 0, 0, what), 1);
        }
        int[] wrong = {-1, 7, 8, 14, 15, 32, 33, 48, Integer.MIN_VALUE, Integer.MAX_VALUE};
        for (int what : wrong) {
            c.due("what " + what, c.x.entry(5, 1, 0, 0, what), -1);
        }
    }

    private static void noneSuch(Check c) {
        c.due("nothing is stored", c.x.entry(5, 1, 0, 0, 0), -1);
        c.put("PUT /1\n\n");
        c.get("GET /1\n\n");
        c.due("it is there", c.x.entry(5, 1, 0, 0, 0), 1);
        int[][] none = {{0, 1, 0, 0}, {7, 1, 0, 0}, {-1, 1, 0, 0}, {4, 1, 0, 0}, {5, 0, 0, 0}, {5, 2, 0, 0}, {5, 1, 1, 0}, {5, 1, 0, 1},
            {5, 1, 0, 4}, {5, -1, 0, 0}, {5, 32, 0, 0}, {5, 33, 0, 0}, {5, 1, -1, 0}, {5, 1, 4, 0}, {5, 1, 0, -1}, {5, 1, 0, 8},
            {Integer.MAX_VALUE, 1, 0, 0}, {5, Integer.MAX_VALUE, 0, 0}, {5, 1, Integer.MAX_VALUE, 0}, {5, 1, 0, Integer.MAX_VALUE},
            {Integer.MIN_VALUE, 1, 0, 0}, {5, Integer.MIN_VALUE, 0, 0}, {5, 1, Integer.MIN_VALUE, 0}, {5, 1, 0, Integer.MIN_VALUE}};
        for (int[] one : none) {
            String call = one[0] + ", " + one[1] + ", " + one[2] + ", " + one[3];
            c.due("entry " + call, c.x.entry(one[0], one[1], one[2], one[3], 0), -1);
            c.due("place of " + call, c.x.entry(one[0], one[1], one[2], one[3], 5), -1);
            c.due("block of " + call, c.x.entry(one[0], one[1], one[2], one[3], 16), -1);
        }
        c.x.fail(5);
        c.due("of a node that is down", c.x.entry(5, 1, 0, 0, 0), -1);
    }

    private static void greatestOnes(Check c) {
        c.put("PUT /31\nvary: accept-language, accept-encoding\n\n");
        c.get("GET /31/3\naccept-language: it\naccept-encoding: gzip\n\n");
        c.due("path 31, variant 3, which 7", c.entry(6, 31, 3, 7), "[1, 0, 0, 0, 0, 0, 3]");
        c.put("PUT /0\n\n");
        c.get("GET /0/0\n\n");
        c.due("path 0, variant 0, which 0", c.entry(4, 0, 0, 0), "[1, 0, 0, 0, 0, 0, 0]");
    }

    private static void places(Check c) {
        int[] paths = {1, 6, 18};
        for (int path : paths) {
            c.put("PUT /" + path + "\ncache-control: max-age=50\n\n");
            c.get("GET /" + path + "\n\n");
        }
        c.due("the oldest is 0", c.x.entry(5, 1, 0, 0, 5), 0);
        c.due("the next is 1", c.x.entry(5, 6, 0, 0, 5), 1);
        c.due("the latest is 2", c.x.entry(5, 18, 0, 0, 5), 2);
        c.ask("GET /1\n\n");
        c.due("the oldest of kept is 0", c.x.entry(5, 1, 0, 0, 4) * 10 + c.x.entry(5, 1, 0, 0, 5), 10);
        c.due("the others move up", c.x.entry(5, 6, 0, 0, 5) * 10 + c.x.entry(5, 18, 0, 0, 5), 1);
        c.ask("GET /18\n\n");
        c.due("the next of kept is 1", c.x.entry(5, 18, 0, 0, 4) * 10 + c.x.entry(5, 18, 0, 0, 5), 11);
    }

    private static void firstAndLastBlock(Check c) {
        c.put("PUT /1\nlength: 255\n\n");
        c.get("GET /1\nrange: bytes=0-0\n\n");
        c.due("block 0", c.blocks(5, 1, 0, 0), "1000000000000000");
        c.fresh();
        c.put("PUT /1\nlength: 255\n\n");
        c.get("GET /1\nrange: bytes=254-254\n\n");
        c.due("block 15", c.blocks(5, 1, 0, 0), "0000000000000001");
        c.due("how many", c.x.entry(5, 1, 0, 0, 2), 1);
    }

    private static void agesGrow(Check c) {
        c.put("PUT /1\ncache-control: max-age=1\n\n");
        c.ask("GET /1\n\n");
        for (int i = 0; i < 3; i++) {
            c.x.deliver(0);
        }
        c.x.tick(7);
        c.x.deliver(0);
        c.due("when it came", c.x.entry(5, 1, 0, 0, 1), 7);
        c.x.tick(1);
        c.due("a tick since", c.x.entry(5, 1, 0, 0, 1), 8);
        for (int i = 0; i < 50; i++) {
            c.x.tick(100);
        }
        c.due("5001 ticks since", c.x.entry(5, 1, 0, 0, 1), 5008);
        c.due("at the parent it came at 0", c.x.entry(1, 1, 0, 0, 1), 5008);
    }

    private static void blocksByLength(Check c) {
        int[] lengths = {0, 1, 15, 16, 17, 31, 32, 33, 239, 240, 241, 255};
        int[] due = {0, 1, 1, 1, 2, 2, 2, 3, 15, 15, 16, 16};
        for (int i = 0; i < lengths.length; i++) {
            c.fresh();
            c.put("PUT /1\nlength: " + lengths[i] + "\n\n");
            c.get("GET /1\n\n");
            c.due("blocks with length " + lengths[i], c.x.entry(5, 1, 0, 0, 2), due[i]);
            for (int block = 0; block < 16; block++) {
                c.due("block " + block, c.x.entry(5, 1, 0, 0, 16 + block), block < due[i] ? 1 : 0);
            }
        }
    }

    private static void blocksByRange(Check c) {
        String[] ranges = {"0-15", "0-16", "15-16", "16-31", "31-32", "47-48", "239-240", "240-"};
        String[] due = {"1000000000000000", "1100000000000000", "1100000000000000", "0100000000000000", "0110000000000000",
            "0011000000000000", "0000000000000011", "0000000000000001"};
        for (int i = 0; i < ranges.length; i++) {
            c.fresh();
            c.put("PUT /1\nlength: 255\n\n");
            c.get("GET /1\nrange: bytes=" + ranges[i] + "\n\n");
            c.due("blocks of " + ranges[i], c.blocks(5, 1, 0, 0), due[i]);
        }
    }
}
