/** Promise 15: answer. */
public final class P15AnswerTest {
    public static void main(String[] args) {
        Check c = new Check("promise 15");
        wrongOnes(c);
        whileItWaits(c);
        statuses(c);
        ranges(c);
        hitsAndStale(c);
        whichOne(c);
        c.end();
    }

    private static void wrongOnes(Check c) {
        c.due("none has come", c.thrownBy(0, 0), 1);
        c.due("none, and no such what", c.thrownBy(0, 9), 1);
        c.ask("GET /1\n\n");
        int[] none = {-1, 1, 300, Integer.MIN_VALUE, Integer.MAX_VALUE};
        for (int r : none) {
            c.due("answer " + r, c.thrownBy(r, 0), 1);
        }
        int[] wrong = {-1, 9, Integer.MIN_VALUE, Integer.MAX_VALUE};
        for (int what : wrong) {
            c.due("what " + what, c.thrownBy(0, what), 2);
        }
        for (int what = 0; what <= 8; what++) {
            c.due("what " + what, c.thrownBy(0, what), 0);
        }
    }

    private static void whileItWaits(Check c) {
        c.fresh();
        c.put("PUT /1\nlength: 40\n\n");
        c.x.tick(7);
        int r = c.ask("GET /1\n\n");
        c.due("it waits", c.answer(r), "[0, 0, 0, 0, 0, 0, 0, 5, 0]");
        c.x.tick(2);
        c.x.settle();
        c.due("answered", c.answer(r), "[200, 1, 0, 40, 0, 88, 9, 5, 0]");
        c.x.tick(5);
        c.due("it stays so", c.answer(r), "[200, 1, 0, 40, 0, 88, 9, 5, 0]");
        r = c.get("HEAD /1\n\n");
        c.due("to head", c.answer(r), "[200, 1, 0, 40, 0, 48, 14, 5, 0]");
    }

    private static int status(Check c, String lines) {
        return c.x.answer(c.get("GET /1\n" + lines + "\n\n"), 0);
    }

    private static void statuses(Check c) {
        c.fresh();
        c.put("PUT /1\nlength: 40\ncache-control: max-age=50\n\n");
        c.put("PUT /1\nlength: 40\ncache-control: max-age=50\n\n");
        c.due("tag", status(c, "if-none-match: \"16\""), 304);
        c.due("another tag", status(c, "if-none-match: \"8\""), 200);
        c.due("one of several", status(c, "if-none-match: \"8\", \"24\", \"016\""), 304);
        c.due("none of several", status(c, "if-none-match: \"8\", \"24\""), 200);
        c.due("any", status(c, "if-none-match: *"), 304);
        c.due("any with a range", status(c, "if-none-match: *\nrange: bytes=1-2"), 304);
        c.due("any with a range beyond", status(c, "if-none-match: *\nrange: bytes=100-"), 304);
        c.due("another with a range", status(c, "if-none-match: \"8\"\nrange: bytes=1-2"), 206);
        int r = c.get("GET /1\nif-none-match: *\n\n");
        c.due("304", c.answer(r), "[304, 2, 0, 0, 1, 47, 0, 5, 0]");
        r = c.get("HEAD /1\nrange: bytes=40-\n\n");
        c.due("416", c.answer(r), "[416, 2, 0, 0, 1, 82, 0, 5, 0]");
        r = c.get("GET /2\n\n");
        c.due("404", c.answer(r), "[404, 0, 0, 0, 0, 15, 0, 6, 0]");
    }

    private static void range(Check c, int length, String range, int status, int count) {
        c.fresh();
        c.put("PUT /1\nlength: " + length + "\ncache-control: max-age=50\n\n");
        for (int i = 0; i < 2; i++) {
            int r = c.get("GET /1\n" + range + "\n\n");
            String what = range + " of " + length + (i == 0 ? "" : " by a hit");
            c.due("status of " + what, c.x.answer(r, 0), status);
            c.due("bytes of " + what, c.x.answer(r, 3), count);
            c.due("hit of " + what, c.x.answer(r, 4), i);
        }
    }

    private static void ranges(Check c) {
        range(c, 40, "range: bytes=0-0", 206, 1);
        range(c, 40, "range: bytes=0-39", 206, 40);
        range(c, 40, "range: bytes=0-40", 206, 40);
        range(c, 40, "range: bytes=39-99999", 206, 1);
        range(c, 40, "range: bytes=39-", 206, 1);
        range(c, 40, "range: bytes=40-", 416, 0);
        range(c, 40, "range: bytes=40-50", 416, 0);
        range(c, 40, "range: bytes=9-8", 200, 40);
        range(c, 40, "range: bytes=-1", 206, 1);
        range(c, 40, "range: bytes=-40", 206, 40);
        range(c, 40, "range: bytes=-41", 206, 40);
        range(c, 40, "range: bytes=-99999", 206, 40);
        range(c, 40, "range: bytes=-0", 416, 0);
        range(c, 0, "range: bytes=0-5", 416, 0);
        range(c, 0, "range: bytes=-5", 416, 0);
        range(c, 0, "x: y", 200, 0);
        range(c, 255, "range: bytes=254-254", 206, 1);
        range(c, 255, "range: bytes=255-", 416, 0);
        range(c, 255, "x: y", 200, 255);
        range(c, 40, "range: bytes=3-5\nif-range: \"8\"", 206, 3);
        range(c, 40, "range: bytes=3-5\nif-range: \"08\"", 206, 3);
        range(c, 40, "range: bytes=3-5\nif-range: \"9\"", 200, 40);
        range(c, 40, "range: bytes=50-\nif-range: \"9\"", 200, 40);
        range(c, 40, "range: bytes=50-\nif-range: \"8\"", 416, 0);
        range(c, 40, "if-range: \"8\"", 200, 40);
        range(c, 40, "range: bytes=-3\nif-range: \"8\"", 206, 3);
    }

    private static void hitsAndStale(Check c) {
        c.fresh();
        c.put("PUT /1\nlength: 9\ncache-control: max-age=5, stale-while-revalidate=3\n\n");
        c.get("GET /1\n\n");
        c.x.tick(2);
        c.due("a hit", c.answer(c.ask("GET /1\n\n")), "[200, 1, 2, 9, 1, 55, 2, 5, 0]");
        c.x.tick(4);
        c.due("stale", c.answer(c.ask("GET /1\n\n")), "[200, 1, 6, 9, 2, 57, 6, 5, 0]");
        c.x.lose(0);
        c.due("stale while its fetch is out", c.x.answer(c.ask("GET /1\n\n"), 4), 2);
        c.due("no second fetch", c.x.total(0), 0);
        c.x.tick(2);
        int r = c.ask("GET /1\n\n");
        c.due("no longer: it waits behind that", c.x.answer(r, 0), 0);
        c.due("no miss", c.x.node(5, 5), 1);
        c.due("no message", c.x.total(0), 0);
    }

    private static void whichOne(Check c) {
        c.fresh();
        c.put("PUT /1\nlength: 9\nvary: accept-language, accept-encoding\ncache-control: max-age=5\n\n");
        int r = c.get("GET /1\naccept-language: fr\naccept-encoding: gzip\n\n");
        c.due("which", c.x.answer(r, 8), 6);
        r = c.get("GET /1\naccept-language: fr\n\n");
        c.due("which", c.x.answer(r, 8), 2);
        r = c.get("GET /1\nif-none-match: \"14\", \"10\"\naccept-language: fr\naccept-encoding: gzip\n\n");
        c.due("by its tag", c.x.answer(r, 0), 304);
        r = c.get("GET /1\nif-none-match: \"8\", \"10\"\naccept-language: fr\naccept-encoding: gzip\n\n");
        c.due("not by another's", c.x.answer(r, 0), 200);
        r = c.get("GET /1/3\naccept-language: it\n\n");
        c.due("its edge", c.answer(r), "[200, 1, 0, 9, 0, 96, 0, 3, 3]");
    }
}
