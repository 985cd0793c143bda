/** Promise 16: letter: each kind of answer as a TEXT. */
public final class P16LetterTest {
    public static void main(String[] args) {
        Check c = new Check("promise 16");
        wrongOnes(c);
        wholeTexts(c);
        varyLines(c);
        allBytes(c);
        c.end();
    }

    private static void wrongOnes(Check c) {
        c.due("none has come", c.x.letter(0, 0), -1);
        int r = c.ask("GET /1\n\n");
        c.due("it waits", c.x.letter(r, 0), -1);
        c.x.settle();
        c.due("first", c.x.letter(r, 0), '4');
        c.due("last", c.x.letter(r, 14), 10);
        int[] none = {-1, 15, Integer.MIN_VALUE, Integer.MAX_VALUE};
        for (int i : none) {
            c.due("letter " + i, c.x.letter(r, i), -1);
        }
        int[] others = {-1, 1, Integer.MIN_VALUE, Integer.MAX_VALUE};
        for (int other : others) {
            c.due("letter of " + other, c.x.letter(other, 0), -1);
        }
    }

    private static void text(Check c, String asked, String due) {
        int r = c.get(asked);
        c.due("answer to " + asked, c.text(r), due);
        c.due("its characters", c.x.answer(r, 5), due.length());
    }

    private static void wholeTexts(Check c) {
        c.fresh();
        c.put("PUT /3\nlength: 40\ncache-control: max-age=5\n\n");
        String whole = Check.bytes(3, 0, 1, 0, 0, 39);
        text(c, "GET /3\n\n", "200 OK\netag: \"8\"\nage: 0\ncache: miss\nlength: 40\n\n" + whole);
        textsFromAnEntry(c, whole);
        textsOfOthers(c, whole);
    }

    /** A new object with an entry of age 3: an object is used for at most 512 calls. */
    private static void stored(Check c) {
        c.fresh();
        c.put("PUT /3\nlength: 40\ncache-control: max-age=5\n\n");
        c.get("GET /3\n\n");
        c.x.tick(3);
    }

    private static void textsFromAnEntry(Check c, String whole) {
        stored(c);
        text(c, "GET /3\n\n", "200 OK\netag: \"8\"\nage: 3\ncache: hit\nlength: 40\n\n" + whole);
        text(c, "HEAD /3\n\n", "200 OK\netag: \"8\"\nage: 3\ncache: hit\nlength: 40\n\n");
        text(c, "GET /3\nrange: bytes=-7\n\n",
            "206 Partial Content\netag: \"8\"\nage: 3\ncache: hit\ncontent-range: bytes 33-39/40\nlength: 7\n\n" + whole.substring(33));
        text(c, "HEAD /3\nrange: bytes=16-\n\n",
            "206 Partial Content\netag: \"8\"\nage: 3\ncache: hit\ncontent-range: bytes 16-39/40\nlength: 24\n\n");
        text(c, "GET /3\nrange: bytes=15-17\n\n",
            "206 Partial Content\netag: \"8\"\nage: 3\ncache: hit\ncontent-range: bytes 15-17/40\nlength: 3\n\n" + whole.substring(15, 18));
    }

    private static void textsOfOthers(Check c, String whole) {
        stored(c);
        text(c, "GET /3\nrange: bytes=40-\n\n",
            "416 Range Not Satisfiable\netag: \"8\"\nage: 3\ncache: hit\ncontent-range: bytes */40\n\n");
        text(c, "GET /3\nif-none-match: *\n\n", "304 Not Modified\netag: \"8\"\nage: 3\ncache: hit\n\n");
        c.x.tick(10);
        text(c, "GET /3\ncache-control: max-stale\n\n",
            "200 OK\netag: \"8\"\nage: 13\ncache: stale\nlength: 40\n\n" + whole);
        text(c, "GET /4\n\n", "404 Not Found\n\n");
        text(c, "GET /x\n\n", "400 Bad Request\n\n");
        text(c, "GET /4\ncache-control: only-if-cached\n\n", "504 Gateway Timeout\n\n");
        int r = c.ask("GET /4\n\n");
        for (int n = 3; n <= 6; n++) {
            c.x.fail(n);
        }
        c.due("502", c.text(r), "502 Bad Gateway\n\n");
        text(c, "GET /4\n\n", "503 Service Unavailable\n\n");
    }

    private static void varyLines(Check c) {
        String[] vary = {"accept-language", "accept-encoding", "accept-encoding, accept-language"};
        String[] lines = {"accept-language", "accept-encoding", "accept-language, accept-encoding"};
        int[] which = {3, 4, 7};
        for (int i = 0; i < 3; i++) {
            c.fresh();
            c.put("PUT /5\n\n");
            c.put("PUT /5\nlength: 5\ncache-control: max-age=5\nvary: " + vary[i] + "\n\n");
            String head = "etag: \"" + (16 + which[i]) + "\"\nage: 0\ncache: ";
            String asked = "GET /5/2\naccept-encoding: gzip\naccept-language: it\n";
            text(c, asked + "\n", "200 OK\n" + head + "miss\nvary: " + lines[i] + "\nlength: 5\n\n"
                + Check.bytes(5, 2, 2, which[i], 0, 4));
            text(c, asked + "if-none-match: *\n\n", "304 Not Modified\n" + head + "hit\nvary: " + lines[i] + "\n\n");
            text(c, asked + "range: bytes=5-\n\n", "416 Range Not Satisfiable\n" + head + "hit\nvary: " + lines[i]
                + "\ncontent-range: bytes */5\n\n");
            text(c, asked + "range: bytes=1-1\n\n", "206 Partial Content\n" + head + "hit\nvary: " + lines[i]
                + "\ncontent-range: bytes 1-1/5\nlength: 1\n\n" + Check.bytes(5, 2, 2, which[i], 1, 1));
        }
    }

    private static void allBytes(Check c) {
        c.fresh();
        c.put("PUT /31\n\n");
        c.put("PUT /31\n\n");
        c.put("PUT /31\nlength: 255\n\n");
        text(c, "GET /31/3\n\n", "200 OK\netag: \"24\"\nage: 0\ncache: miss\nlength: 255\n\n" + Check.bytes(31, 3, 3, 0, 0, 254));
        c.fresh();
        c.put("PUT /0\n\n");
        text(c, "GET /0\n\n", "200 OK\netag: \"8\"\nage: 0\ncache: miss\nlength: 0\n\n");
    }
}
