import java.io.IOException;

/** Promise 15, answer: the sentences that name a boundary case of answers and the BYTES that are wanted. */
public final class B15AnswerTest {
    private static final String WHAT = "what 0: 0 if it WAITS yet, else its status, 1: VERSION, 2: the age, "
        + "3: how many bytes of its thing the answer has (to HEAD, too), 4: 1 a HIT at its EDGE, 2 STALE there, else 0, "
        + "5: characters of the answer (with its bytes), 6: the tick of the answer, 7: its EDGE (0 if none), 8: WHICH.";
    private static final String THROWS = "NoSuchElementException: there is none such; IndexOutOfBoundsException: another what. "
        + "(0 where there is none.)";
    private static final String BYTES = "from .. to, as told by range (B and what is beyond the length: to the end; "
        + "-N: the last N, all if there are not so many; without range all; with if-range the range counts for an ENTRY "
        + "just if this is its TAG, else all are wanted).";
    private static final String STATUS = "304 if if-none-match is *, or has its TAG; else, if there is a range that counts, "
        + "and no byte of it (A not below the length, or -0): 416; 206 with a range that counts, else 200.";
    private static final String TAG = "A TAG is 8 * VERSION + WHICH.";

    public static void main(String[] args) throws IOException {
        Boundary b = new Boundary(15);
        noneHasCome(b.of(THROWS));
        firstAndLastRequest(b.of(THROWS));
        anotherWhat(b.of(THROWS));
        noneSuchAndAnotherWhat(b.of(THROWS));
        zerosWhereThereIsNone(b.of(THROWS));
        whileItWaits(b.of(WHAT));
        toHead(b.of(WHAT));
        hitStaleOrNeither(b.of(WHAT));
        tickOfTheAnswer(b.of(WHAT));
        beyondTheLength(b.of(BYTES));
        theLastBytes(b.of(BYTES));
        withoutRange(b.of(BYTES));
        ifRange(b.of(BYTES));
        noByteOfIt(b.of(STATUS));
        lengthZero(b.of(STATUS));
        matchComesFirst(b.of(STATUS));
        eightTags(b.of(STATUS));
        tags(b.of(TAG));
        greatestTag(b.of(TAG));
        b.end();
    }

    private static void noneHasCome(Check c) {
        c.due("0", c.thrownBy(0, 0), 1);
        c.x.ask();
        c.due("0 has come", c.thrownBy(0, 0), 0);
    }

    private static void firstAndLastRequest(Check c) {
        for (int i = 0; i < 300; i++) {
            c.x.ask();
        }
        c.due("0", c.thrownBy(0, 0), 0);
        c.due("299", c.x.answer(299, 0), 400);
        int[] none = {-1, 300, 301, Integer.MIN_VALUE, Integer.MAX_VALUE};
        for (int r : none) {
            c.due("request " + r, c.thrownBy(r, 0), 1);
        }
    }

    private static void anotherWhat(Check c) {
        c.ask("GET /1\n\n");
        for (int what = 0; what <= 8; what++) {
            c.due("what " + what, c.thrownBy(0, what), 0);
        }
        int[] wrong = {-1, 9, 16, Integer.MIN_VALUE, Integer.MAX_VALUE};
        for (int what : wrong) {
            c.due("what " + what, c.thrownBy(0, what), 2);
        }
        c.x.settle();
        c.due("also of one that is answered", c.thrownBy(0, 9), 2);
    }

    private static void noneSuchAndAnotherWhat(Check c) {
        c.due("the one that is told first", c.thrownBy(0, 9), 1);
        c.due("below 0", c.thrownBy(-1, -1), 1);
    }

    private static void zerosWhereThereIsNone(Check c) {
        c.x.tick(5);
        c.x.ask();
        c.due("400", c.answer(0), "[400, 0, 0, 0, 0, 17, 5, 0, 0]");
        c.get("GET /1\n\n");
        c.due("404", c.answer(1), "[404, 0, 0, 0, 0, 15, 5, 5, 0]");
        c.ask("GET /1\naccept-language: it\ncache-control: only-if-cached\n\n");
        c.due("504", c.answer(2), "[504, 0, 0, 0, 0, 21, 5, 5, 0]");
        c.ask("GET /1\naccept-language: it\n\n");
        c.x.fail(5);
        c.due("502", c.answer(3), "[502, 0, 0, 0, 0, 17, 5, 5, 0]");
    }

    private static void whileItWaits(Check c) {
        c.put("PUT /1\nlength: 20\nvary: accept-language\n\n");
        c.x.tick(5);
        c.ask("GET /1\naccept-language: it\n\n");
        c.due("it waits", c.answer(0), "[0, 0, 0, 0, 0, 0, 0, 5, 0]");
        c.x.settle();
        c.due("it is answered", c.answer(0), "[200, 1, 0, 20, 0, 91, 5, 5, 3]");
    }

    private static void toHead(Check c) {
        c.put("PUT /1\nlength: 255\ncache-control: max-age=9\n\n");
        c.get("HEAD /1\n\n");
        c.due("all bytes, none of them among the characters", c.answer(0), "[200, 1, 0, 255, 0, 49, 0, 5, 0]");
        c.get("HEAD /1\nrange: bytes=254-\n\n");
        c.due("one byte", c.answer(1), "[206, 1, 0, 1, 1, 92, 0, 5, 0]");
        c.get("HEAD /1\nrange: bytes=255-\n\n");
        c.due("no byte", c.x.answer(2, 0) * 10 + c.x.answer(2, 3), 4160);
        c.get("GET /1\n\n");
        c.due("to get with its bytes", c.x.answer(3, 5), 48 + 255);
    }

    private static void hitStaleOrNeither(Check c) {
        c.put("PUT /1\nlength: 20\ncache-control: max-age=5, stale-while-revalidate=1\n\n");
        c.get("GET /1\n\n");
        c.due("a miss", c.x.answer(0, 4), 0);
        c.x.tick(4);
        c.due("a hit", c.x.answer(c.ask("GET /1\n\n"), 4), 1);
        c.x.tick(1);
        c.due("stale", c.x.answer(c.ask("GET /1\n\n"), 4), 2);
        // a HIT, or STALE, at the parent is neither at the edge
        c.x.fail(5);
        c.x.back(5);
        c.x.settle();
        int r = c.get("GET /1\n\n");
        c.due("at the parent alone", c.x.answer(r, 0) * 10 + c.x.answer(r, 4), 2000);
    }

    private static void tickOfTheAnswer(Check c) {
        c.put("PUT /1\nlength: 20\ncache-control: max-age=50\n\n");
        c.x.tick(1);
        c.ask("GET /1\n\n");
        c.x.tick(2);
        c.x.settle();
        c.due("when it was answered", c.x.answer(0, 6), 3);
        c.x.tick(4);
        c.due("it stays so", c.x.answer(0, 6), 3);
        c.due("its age, too", c.x.answer(0, 2), 0);
        c.due("a hit at once", c.x.answer(c.ask("GET /1\n\n"), 6), 7);
        c.due("with its age", c.x.answer(1, 2), 4);
    }

    /** Status and bytes of the first answer and of a second one from the ENTRY. */
    private static void range(Check c, int length, String lines, int status, int count) {
        c.fresh();
        c.put("PUT /1\nlength: " + length + "\ncache-control: max-age=50\n\n");
        for (int how = 0; how <= 1; how++) {
            int r = c.get("GET /1\n" + lines + "\n");
            c.due("status of " + lines + " with " + length, c.x.answer(r, 0), status);
            c.due("bytes of " + lines + " with " + length, c.x.answer(r, 3), count);
            c.due("how of " + lines + " with " + length, c.x.answer(r, 4), how);
        }
    }

    private static void beyondTheLength(Check c) {
        range(c, 40, "range: bytes=0-38\n", 206, 39);
        range(c, 40, "range: bytes=0-39\n", 206, 40);
        range(c, 40, "range: bytes=0-40\n", 206, 40);
        range(c, 40, "range: bytes=38-99999\n", 206, 2);
        range(c, 40, "range: bytes=39-39\n", 206, 1);
        range(c, 40, "range: bytes=39-\n", 206, 1);
        range(c, 255, "range: bytes=254-255\n", 206, 1);
        range(c, 255, "range: bytes=0-99999\n", 206, 255);
    }

    private static void theLastBytes(Check c) {
        range(c, 40, "range: bytes=-1\n", 206, 1);
        range(c, 40, "range: bytes=-39\n", 206, 39);
        range(c, 40, "range: bytes=-40\n", 206, 40);
        range(c, 40, "range: bytes=-41\n", 206, 40);
        range(c, 40, "range: bytes=-99999\n", 206, 40);
        range(c, 255, "range: bytes=-255\n", 206, 255);
        range(c, 1, "range: bytes=-1\n", 206, 1);
    }

    private static void withoutRange(Check c) {
        range(c, 0, "", 200, 0);
        range(c, 1, "", 200, 1);
        range(c, 255, "", 200, 255);
        range(c, 40, "if-range: \"8\"\n", 200, 40);
        range(c, 40, "range: bytes=8-7\n", 200, 40);
        range(c, 40, "range: bytes=8-7\nif-range: \"8\"\n", 200, 40);
    }

    private static void ifRange(Check c) {
        range(c, 40, "range: bytes=3-5\nif-range: \"8\"\n", 206, 3);
        range(c, 40, "range: bytes=3-5\nif-range: \"7\"\n", 200, 40);
        range(c, 40, "range: bytes=3-5\nif-range: \"9\"\n", 200, 40);
        range(c, 40, "range: bytes=3-5\nif-range: \"0\"\n", 200, 40);
        range(c, 40, "range: bytes=-5\nif-range: \"8\"\n", 206, 5);
        range(c, 40, "range: bytes=-5\nif-range: \"16\"\n", 200, 40);
        range(c, 40, "if-range: \"8\"\nrange: bytes=40-\n", 416, 0);
        range(c, 40, "if-range: \"9\"\nrange: bytes=40-\n", 200, 40);
        // an ENTRY with just the range is not enough if its TAG is another one
        c.fresh();
        c.put("PUT /1\nlength: 40\ncache-control: max-age=50\n\n");
        c.get("GET /1\nrange: bytes=0-15\n\n");
        c.due("its tag", c.x.answer(c.ask("GET /1\nrange: bytes=0-15\nif-range: \"8\"\n\n"), 4), 1);
        c.due("another tag", c.x.answer(c.ask("GET /1\nrange: bytes=0-15\nif-range: \"9\"\n\n"), 0), 0);
    }

    private static void noByteOfIt(Check c) {
        range(c, 40, "range: bytes=39-99999\n", 206, 1);
        range(c, 40, "range: bytes=40-40\n", 416, 0);
        range(c, 40, "range: bytes=40-\n", 416, 0);
        range(c, 40, "range: bytes=99999-\n", 416, 0);
        range(c, 40, "range: bytes=-0\n", 416, 0);
        range(c, 40, "range: bytes=-00000\n", 416, 0);
        range(c, 255, "range: bytes=255-\n", 416, 0);
        range(c, 1, "range: bytes=0-\n", 206, 1);
        range(c, 1, "range: bytes=1-\n", 416, 0);
    }

    private static void lengthZero(Check c) {
        range(c, 0, "range: bytes=0-0\n", 416, 0);
        range(c, 0, "range: bytes=0-\n", 416, 0);
        range(c, 0, "range: bytes=-0\n", 416, 0);
        range(c, 0, "range: bytes=-1\n", 416, 0);
        range(c, 0, "range: bytes=1-0\n", 200, 0);
        range(c, 0, "if-none-match: *\n", 304, 0);
    }

    private static void matchComesFirst(Check c) {
        range(c, 40, "if-none-match: *\nrange: bytes=40-\n", 304, 0);
        range(c, 40, "if-none-match: \"8\"\nrange: bytes=-0\n", 304, 0);
        range(c, 40, "if-none-match: \"9\"\nrange: bytes=40-\n", 416, 0);
        range(c, 40, "if-none-match: \"9\"\nrange: bytes=39-\n", 206, 1);
        range(c, 40, "if-none-match: \"7\"\n", 200, 40);
        range(c, 40, "if-none-match: \"8\"\n", 304, 0);
    }

    private static void eightTags(Check c) {
        range(c, 40, "if-none-match: \"8\", \"1\", \"2\", \"3\", \"4\", \"5\", \"6\", \"7\"\n", 304, 0);
        range(c, 40, "if-none-match: \"1\", \"2\", \"3\", \"4\", \"5\", \"6\", \"7\", \"8\"\n", 304, 0);
        range(c, 40, "if-none-match: \"1\", \"2\", \"3\", \"4\", \"5\", \"6\", \"7\", \"9\"\n", 200, 40);
    }

    private static int tagged(Check c, String lines, int tag) {
        return c.x.answer(c.get("GET /1\n" + lines + "if-none-match: \"" + tag + "\"\n\n"), 0);
    }

    private static void tags(Check c) {
        c.put("PUT /1\nvary: accept-language, accept-encoding\n\n");
        String most = "accept-language: it\naccept-encoding: gzip\n";
        c.due("8 with which 0", tagged(c, "", 8), 304);
        c.due("15 with which 0", tagged(c, "", 15), 200);
        c.due("15 with which 7", tagged(c, most, 15), 304);
        c.due("16 with which 7", tagged(c, most, 16), 200);
        c.put("PUT /1\nvary: accept-language, accept-encoding\n\n");
        c.due("16 of version 2", tagged(c, "", 16), 304);
        c.due("8 of version 2", tagged(c, "", 8), 200);
        c.due("23 of version 2", tagged(c, most, 23), 304);
    }

    private static void greatestTag(Check c) {
        for (int i = 1; i <= 200; i++) {
            c.due("version " + i, c.put("PUT /1\n\n"), i);
        }
        c.due("1600", tagged(c, "", 1600), 304);
        c.due("0", tagged(c, "", 0), 200);
    }
}
