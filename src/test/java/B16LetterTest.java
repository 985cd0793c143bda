import java.io.IOException;

/** Promise 16, letter: the sentences that name a boundary case of an answer's text. */
public final class B16LetterTest {
    private static final String LETTER = "Character (or byte) i of the answer to REQUEST r; NONE if there is none such.";
    private static final String STATUS = "a LINE with the status and its words: 200 OK, 206 Partial Content, 304 Not Modified, "
        + "400 Bad Request, 404 Not Found, 416 Range Not Satisfiable, 502 Bad Gateway, 503 Service Unavailable, 504 Gateway Timeout.";
    private static final String VARY = "vary: accept-language, or accept-encoding, or both of them in this order with a comma and "
        + "a blank between, as VARY tells (not with 0)";
    private static final String RANGE = "of 206 content-range: bytes FROM-TO/LENGTH, of 416 content-range: bytes * / LENGTH "
        + "(an asterisk, without blanks), of 200, 206 length: how many bytes; an empty LINE; the bytes of 200 and 206 to GET.";
    private static final String CACHE = "etag: \"TAG\", age: AGE, cache: hit (a HIT), stale (as STALE) or miss";
    private static final String BYTE = "the lowest 8 bits of 31 * p + 17 * q + 5 * w + 13 * v + 7 * i + (i >> 4).";

    public static void main(String[] args) throws IOException {
        Boundary b = new Boundary(16);
        noneSuch(b.of(LETTER));
        firstAndLast(b.of(LETTER));
        whileItWaits(b.of(LETTER));
        statusesAlone(b.of(STATUS));
        varyLines(b.of(VARY));
        firstAndLastByte(b.of(RANGE));
        noBytes(b.of(RANGE));
        toHead(b.of(RANGE));
        hitStaleMiss(b.of(CACHE));
        lowest8Bits(b.of(BYTE));
        bytesOfTheGreatest(b.of(BYTE));
        bytesAcrossBlocks(b.of(BYTE));
        b.end();
    }

    private static void noneSuch(Check c) {
        c.due("none has come", c.x.letter(0, 0), -1);
        c.x.ask();
        int[] none = {-1, 1, 300, Integer.MIN_VALUE, Integer.MAX_VALUE};
        for (int r : none) {
            c.due("request " + r, c.x.letter(r, 0), -1);
        }
    }

    private static void firstAndLast(Check c) {
        c.x.ask();
        c.due("the first", c.x.letter(0, 0), '4');
        c.due("the last", c.x.letter(0, 16), 10);
        int[] none = {-1, 17, 18, Integer.MIN_VALUE, Integer.MAX_VALUE};
        for (int i : none) {
            c.due("character " + i, c.x.letter(0, i), -1);
        }
        c.put("PUT /1\nlength: 255\n\n");
        c.get("GET /1\n\n");
        int characters = c.x.answer(1, 5);
        c.due("all", characters, 49 + 255);
        c.due("the last byte", c.x.letter(1, characters - 1), Check.bytes(1, 0, 1, 0, 254, 254).charAt(0));
        c.due("none behind it", c.x.letter(1, characters), -1);
    }

    private static void whileItWaits(Check c) {
        c.ask("GET /1\n\n");
        c.due("nothing yet", c.x.letter(0, 0), -1);
        c.x.settle();
        c.due("then", c.x.letter(0, 0), '4');
    }

    private static void statusesAlone(Check c) {
        c.ask("GET /32\n\n");
        c.due("400", c.text(0), "400 Bad Request\n\n");
        c.get("GET /1\n\n");
        c.due("404", c.text(1), "404 Not Found\n\n");
        c.ask("GET /1\ncache-control: only-if-cached\n\n");
        c.due("504", c.text(2), "504 Gateway Timeout\n\n");
        c.ask("GET /1\n\n");
        for (int n = 3; n <= 6; n++) {
            c.x.fail(n);
        }
        c.due("502", c.text(3), "502 Bad Gateway\n\n");
        c.ask("GET /1\n\n");
        c.due("503", c.text(4), "503 Service Unavailable\n\n");
    }

    private static String head(Check c, String vary) {
        c.fresh();
        c.put("PUT /1\n" + vary + "\n");
        return c.text(c.get("HEAD /1\n\n"));
    }

    private static void varyLines(Check c) {
        String begin = "200 OK\netag: \"8\"\nage: 0\ncache: miss\n";
        String end = "length: 0\n\n";
        c.due("0", head(c, ""), begin + end);
        c.due("0 with other words", head(c, "vary: x\n"), begin + end);
        c.due("1", head(c, "vary: accept-language\n"), begin + "vary: accept-language\n" + end);
        c.due("2", head(c, "vary: accept-encoding\n"), begin + "vary: accept-encoding\n" + end);
        c.due("3", head(c, "vary: accept-encoding, accept-language\n"), begin + "vary: accept-language, accept-encoding\n" + end);
    }

    private static void text(Check c, String asked, String due) {
        c.fresh();
        c.put("PUT /1\nlength: 40\n\n");
        int r = c.get(asked);
        c.due(asked, c.text(r), due);
        c.due("characters of " + asked, c.x.answer(r, 5), due.length());
    }

    private static void firstAndLastByte(Check c) {
        String begin = "206 Partial Content\netag: \"8\"\nage: 0\ncache: miss\ncontent-range: bytes ";
        String all = Check.bytes(1, 0, 1, 0, 0, 39);
        text(c, "GET /1\nrange: bytes=0-0\n\n", begin + "0-0/40\nlength: 1\n\n" + all.substring(0, 1));
        text(c, "GET /1\nrange: bytes=39-\n\n", begin + "39-39/40\nlength: 1\n\n" + all.substring(39));
        text(c, "GET /1\nrange: bytes=0-99999\n\n", begin + "0-39/40\nlength: 40\n\n" + all);
        text(c, "GET /1\nrange: bytes=-99999\n\n", begin + "0-39/40\nlength: 40\n\n" + all);
        text(c, "GET /1\nrange: bytes=-1\n\n", begin + "39-39/40\nlength: 1\n\n" + all.substring(39));
    }

    private static void noBytes(Check c) {
        String lines = "etag: \"8\"\nage: 0\ncache: miss\n";
        text(c, "GET /1\nrange: bytes=40-\n\n", "416 Range Not Satisfiable\n" + lines + "content-range: bytes */40\n\n");
        text(c, "GET /1\nrange: bytes=-0\n\n", "416 Range Not Satisfiable\n" + lines + "content-range: bytes */40\n\n");
        text(c, "GET /1\nif-none-match: *\n\n", "304 Not Modified\n" + lines + "\n");
        c.fresh();
        c.put("PUT /1\n\n");
        c.due("200 of length 0", c.text(c.get("GET /1\n\n")), "200 OK\n" + lines + "length: 0\n\n");
        c.due("416 of length 0", c.text(c.get("GET /1\nrange: bytes=0-\n\n")),
            "416 Range Not Satisfiable\n" + lines + "content-range: bytes */0\n\n");
    }

    private static void toHead(Check c) {
        String lines = "etag: \"8\"\nage: 0\ncache: miss\n";
        text(c, "HEAD /1\n\n", "200 OK\n" + lines + "length: 40\n\n");
        text(c, "HEAD /1\nrange: bytes=39-\n\n", "206 Partial Content\n" + lines + "content-range: bytes 39-39/40\nlength: 1\n\n");
        text(c, "HEAD /1\nrange: bytes=40-\n\n", "416 Range Not Satisfiable\n" + lines + "content-range: bytes */40\n\n");
    }

    private static void hitStaleMiss(Check c) {
        c.put("PUT /1\ncache-control: max-age=5, stale-while-revalidate=1\n\n");
        c.due("miss", c.text(c.get("GET /1\n\n")), "200 OK\netag: \"8\"\nage: 0\ncache: miss\nlength: 0\n\n");
        c.x.tick(4);
        c.due("hit", c.text(c.ask("GET /1\n\n")), "200 OK\netag: \"8\"\nage: 4\ncache: hit\nlength: 0\n\n");
        c.x.tick(1);
        c.due("stale", c.text(c.ask("GET /1\n\n")), "200 OK\netag: \"8\"\nage: 5\ncache: stale\nlength: 0\n\n");
        c.x.tick(1);
        int r = c.ask("GET /1\n\n");
        c.due("the text of one that waits", c.text(r), "");
        c.x.tick(95);
        c.due("504", c.text(r), "504 Gateway Timeout\n\n");
        c.x.settle();
        c.x.tick(99);
        r = c.ask("GET /1\ncache-control: max-stale\n\n");
        c.due("an age of three digits", c.text(r), "200 OK\netag: \"8\"\nage: 200\ncache: stale\nlength: 0\n\n");
    }

    /** Byte 0 of path 0: 13 * VERSION; with version 19 it is 247, with version 20 it has come round to 4. */
    private static void lowest8Bits(Check c) {
        int[] due = new int[21];
        due[1] = 13;
        due[19] = 247;
        due[20] = 4;
        for (int version = 1; version <= 20; version++) {
            c.put("PUT /0\nlength: 1\n\n");
            if (due[version] > 0) {
                int r = c.get("GET /0\n\n");
                c.due("byte of version " + version, c.x.letter(r, c.x.answer(r, 5) - 1), due[version]);
            }
        }
    }

    /** Path 31, variant 3, WHICH 7, version 1, byte 254: 961 + 51 + 35 + 13 + 1778 + 15 = 2853, 37 of it. */
    private static void bytesOfTheGreatest(Check c) {
        c.put("PUT /31\nlength: 255\nvary: accept-language, accept-encoding\n\n");
        int r = c.get("GET /31/3\naccept-language: it\naccept-encoding: gzip\nrange: bytes=-1\n\n");
        c.due("which", c.x.answer(r, 8), 7);
        c.due("byte 254", c.x.letter(r, c.x.answer(r, 5) - 1), 37);
    }

    /** Byte 15 is 105 above byte 0, byte 16 is 113 above it. */
    private static void bytesAcrossBlocks(Check c) {
        c.put("PUT /1\nlength: 255\n\n");
        int r = c.get("GET /1\n\n");
        int begin = c.x.answer(r, 5) - 255;
        c.due("byte 0", c.x.letter(r, begin), 44);
        c.due("byte 15", c.x.letter(r, begin + 15), 149);
        c.due("byte 16", c.x.letter(r, begin + 16), 157);
        c.due("byte 30", c.x.letter(r, begin + 30), 255);
        c.due("byte 31", c.x.letter(r, begin + 31), 6);
        c.due("byte 32", c.x.letter(r, begin + 32), 14);
        c.due("byte 254", c.x.letter(r, begin + 254), (44 + 1778 + 15) % 256);
    }
}
