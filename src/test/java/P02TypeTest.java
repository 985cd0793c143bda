/** Promise 2: type. */
public final class P02TypeTest {
    public static void main(String[] args) {
        Check c = new Check("promise 2");
        highestFirst(c);
        wrongCounts(c);
        wrongBytes(c);
        atMost300(c);
        c.end();
    }

    private static void highestFirst(Check c) {
        // 'P','U' are bytes 1 and 0 of the word, with other bytes above them
        c.due("two bytes", c.x.type(0x7F00FF0901025055L, 2), true);
        c.due("one byte", c.x.type(0x54, 1), true);
        c.due("one blank", c.x.type(32, 1), true);
        c.due("line end", c.x.type(Check.word("/4\n\n"), 4), true);
        c.due("a thing", c.update(), 1);
        c.due("eight bytes", c.x.type(Check.word("PUT /9\n\n"), 8), true);
        c.due("a thing by one word", c.update(), 1);
        c.due("drop 9", c.x.drop(9), true);
        c.due("drop 4", c.x.drop(4), true);
    }

    private static void wrongCounts(Check c) {
        c.fresh();
        c.type("PUT /1");
        int[] wrong = {0, -1, 9, 16, Integer.MIN_VALUE, Integer.MAX_VALUE};
        for (int n : wrong) {
            c.due("type of " + n, c.x.type(0x4141414141414141L, n), false);
        }
        c.type("\n\n");
        c.due("nothing was typed between", c.update(), 1);
    }

    private static void wrongBytes(Check c) {
        c.fresh();
        c.type("PUT /1\n");
        for (int b = 0; b < 256; b++) {
            boolean good = b == 10 || b >= 32 && b <= 126;
            if (!good) {
                c.due("byte " + b + " alone", c.x.type(b, 1), false);
                c.due("byte " + b + " last of two", c.x.type(0x4100L | b, 2), false);
                c.due("byte " + b + " first of eight", c.x.type((long) b << 56 | 0x41414141414141L, 8), false);
            }
        }
        c.type("\n");
        c.due("nothing was typed between", c.update(), 1);
        for (int b = 32; b <= 126; b++) {
            c.fresh();
            c.type("PUT /1\nx:");
            c.due("byte " + b, c.x.type(b, 1), true);
            c.type("\n\n");
            c.due("a value with byte " + b, c.update(), 1);
        }
    }

    private static void atMost300(Check c) {
        c.fresh();
        StringBuilder b = new StringBuilder("PUT /1\nx:");
        while (b.length() < 297) {
            b.append('v');
        }
        c.type(b.toString());
        c.due("five more", c.x.type(Check.word("vvv\n\n"), 5), false);
        c.due("four more", c.x.type(Check.word("vv\n\n"), 4), false);
        c.due("three more", c.x.type(Check.word("v\n\n"), 3), true);
        c.due("one more than 300", c.x.type(10, 1), false);
        c.due("300 characters are a thing", c.update(), 1);
        c.due("the tape is empty then", c.x.type(Check.word("PUT /1\n\n"), 8), true);
        c.due("a thing again", c.update(), 2);
    }
}
