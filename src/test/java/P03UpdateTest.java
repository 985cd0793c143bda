/** Promise 3: update: versions, what can't stand in a THING, and what a THING tells. */
public final class P03UpdateTest {
    public static void main(String[] args) {
        Check c = new Check("promise 3");
        versions(c);
        goodTexts(c);
        wrongTexts(c);
        whatIsTold(c);
        lastOfAKindCounts(c);
        c.end();
    }

    private static void versions(Check c) {
        c.due("first", c.put("PUT /5\n\n"), 1);
        c.due("second", c.put("PUT /05\n\n"), 2);
        c.due("of another path", c.put("PUT /6\n\n"), 1);
        c.due("none", c.put("PUT /5\nlength: 256\n\n"), -2);
        c.due("the tape is empty behind one that is none", c.put("PUT /5\n\n"), 3);
        c.x.drop(5);
        c.due("one more than any it had", c.put("PUT /5\n\n"), 4);
        c.due("of path 0", c.put("PUT /00000\n\n"), 1);
        c.due("of path 31", c.put("PUT /00031\n\n"), 1);
        c.due("an empty tape", c.update(), -2);
        c.due("fault of an empty tape", c.x.fault(), 0);
        c.due("a request is none", c.put("GET /1\n\n"), -2);
        c.due("its fault", c.x.fault(), 0);
    }

    private static void good(Check c, String text) {
        c.fresh();
        c.due("thing <" + text + ">", c.put(text), 1);
        c.due("fault of <" + text + ">", c.x.fault(), -1);
    }

    private static void goodTexts(Check c) {
        good(c, "PUT /1\nlength:255\n\n");
        good(c, "PUT /1\nlength: 00000\n\n");
        good(c, "PUT /1\nkeys: a\n\n");
        good(c, "PUT /1\nkeys:a b c d e f g h\n\n");
        good(c, "PUT /1\nkeys: h h h h h h h h\n\n");
        good(c, "PUT /1\nvary: a, b=3, accept-language\n\n");
        good(c, "PUT /1\ncache-control: max-age=99999, foo, bar=0, -\n\n");
        good(c, "PUT /1\nx:\n\n");
        good(c, "PUT /1\nx: \n\n");
        good(c, "PUT /1\nx:  two blanks, a : and 123\n\n");
        good(c, "PUT /1\nabcdefghij-lmnopqrst: 20 letters\n\n");
        good(c, "PUT /1\nlengt: x\nlength: 1\nlength-: y\n\n");
        // names that count in a request alone have any value here
        good(c, "PUT /1\nrange: none\nif-range: x\nif-none-match:\naccept-language: 5\naccept-encoding: ,\n\n");
        good(c, "PUT /1\ncache-control: abcdefghijklmnopqrstuvwxyz-abc\n\n");
    }

    private static void wrong(Check c, String text, int fault) {
        c.fresh();
        c.due("thing <" + text + ">", c.put(text), -2);
        c.due("fault of <" + text + ">", c.x.fault(), fault);
        c.due("nothing came of <" + text + ">", c.x.drop(1), false);
        c.due("the tape is empty behind <" + text + ">", c.put("PUT /1\n\n"), 1);
        c.due("no fault any more", c.x.fault(), -1);
    }

    private static void wrongTexts(Check c) {
        wrong(c, "PUT", 3);
        wrong(c, "put /1\n\n", 0);
        wrong(c, "PUX /1\n\n", 2);
        wrong(c, "PUT  /1\n\n", 4);
        wrong(c, "PUT 1\n\n", 4);
        wrong(c, "PUT /\n\n", 5);
        wrong(c, "PUT /32\n\n", 5);
        wrong(c, "PUT /000001\n\n", 10);
        wrong(c, "PUT /99999\n\n", 5);
        wrong(c, "PUT /1/0\n\n", 6);
        wrong(c, "PUT /1 \n\n", 6);
        wrong(c, "PUT /1\n", 7);
        wrong(c, "PUT /1", 6);
        wrong(c, "PUT /1\n\n\n", 8);
        wrong(c, "PUT /1\nlength: 256\n\n", 15);
        wrong(c, "PUT /1\nlength: \n\n", 15);
        wrong(c, "PUT /1\nlength:\n\n", 14);
        wrong(c, "PUT /1\nlength:  1\n\n", 15);
        wrong(c, "PUT /1\nlength: 1 \n\n", 16);
        wrong(c, "PUT /1\nlength: 000001\n\n", 20);
        wrong(c, "PUT /1\nlength: 1x\n\n", 16);
        wrong(c, "PUT /1\nlength : 1\n\n", 13);
        wrong(c, "PUT /1\nLength: 1\n\n", 7);
        wrong(c, "PUT /1\n: 1\n\n", 7);
        wrong(c, "PUT /1\nlength: 1\nlength: 1\n\n", 17);
        wrong(c, "PUT /1\nabcdefghijklmnopqrstu: 21 letters\n\n", 7);
        wrong(c, "PUT /1\nx: y", 11);
        wrong(c, "PUT /1\nx: y\n", 12);
        wrong(c, "PUT /1\nkeys: \n\n", 13);
        wrong(c, "PUT /1\nkeys: i\n\n", 13);
        wrong(c, "PUT /1\nkeys: ab\n\n", 14);
        wrong(c, "PUT /1\nkeys: a  b\n\n", 15);
        wrong(c, "PUT /1\nkeys: a \n\n", 15);
        wrong(c, "PUT /1\nkeys: a,b\n\n", 14);
        wrong(c, "PUT /1\nkeys: a b c d e f g h a\n\n", 28);
        wrong(c, "PUT /1\nvary: \n\n", 13);
        wrong(c, "PUT /1\nvary: a,b\n\n", 15);
        wrong(c, "PUT /1\nvary: a, \n\n", 16);
        wrong(c, "PUT /1\nvary: a,  b\n\n", 16);
        wrong(c, "PUT /1\nvary: a b\n\n", 14);
        wrong(c, "PUT /1\nvary: a=\n\n", 15);
        wrong(c, "PUT /1\nvary: a=x\n\n", 15);
        wrong(c, "PUT /1\nvary: a=123456\n\n", 20);
        wrong(c, "PUT /1\nvary: a, A\n\n", 16);
        wrong(c, "PUT /1\nvary: abcdefghijklmnopqrstuvwxyz-abcd\n\n", 13);
        wrong(c, "PUT /1\nvary: a, abcdefghijklmnopqrstuvwxyz-abcd=1\n\n", 16);
    }

    /** Asks for path 1 (EDGE 5), lets ticks pass, asks again; how the second answer came. */
    private static int howAfter(Check c, String control, int ticks) {
        c.fresh();
        c.put("PUT /1\nlength: 20\ncache-control: " + control + "\n\n");
        c.get("GET /1\n\n");
        c.x.tick(ticks);
        int r = c.ask("GET /1\n\n");
        return c.x.answer(r, 0) == 0 ? 0 : c.x.answer(r, 4);
    }

    private static void whatIsTold(Check c) {
        c.due("below max-age", howAfter(c, "max-age=5", 4), 1);
        c.due("at max-age", howAfter(c, "max-age=5", 5), 0);
        c.due("no-cache", howAfter(c, "max-age=5, no-cache", 1), 0);
        c.due("no-store", howAfter(c, "max-age=5, no-store", 1), 0);
        c.due("stale-while-revalidate", howAfter(c, "max-age=5, stale-while-revalidate=3", 7), 2);
        c.due("behind stale-while-revalidate", howAfter(c, "max-age=5, stale-while-revalidate=3", 8), 0);
        c.fresh();
        c.put("PUT /1\nlength: 20\nvary: accept-encoding\nkeys: b\n\n");
        c.get("GET /1\n\n");
        c.due("entry", c.entry(5, 1, 0, 0), "[1, 0, 2, 0, 0, 0, 2]");
        c.fresh();
        c.put("PUT /1\n\n");
        int r = c.get("GET /1\n\n");
        c.due("length 0 without", c.x.answer(r, 3), 0);
        c.due("vary 0 without", c.x.entry(5, 1, 0, 0, 6), 0);
    }

    private static void lastOfAKindCounts(Check c) {
        c.due("the last max-age", howAfter(c, "max-age=1, max-age=5", 4), 1);
        c.due("the last max-age, the lesser one", howAfter(c, "max-age=50, max-age=3", 4), 0);
        c.due("max-age without a number does not count", howAfter(c, "max-age=5, max-age", 4), 1);
        c.due("no-cache with a number does not count", howAfter(c, "max-age=5, no-cache=1", 4), 1);
        c.due("no-store with a number does not count", howAfter(c, "max-age=5, no-store=0", 4), 1);
        c.due("stale-while without a number does not count", howAfter(c, "max-age=3, stale-while-revalidate", 4), 0);
        String[] vary = {"accept-language", "accept-encoding", "accept-encoding, accept-language", "accept-language=1",
            "accept-language, accept-encoding=0", "accept, encoding", "accept-language, accept-language"};
        int[] sums = {1, 2, 3, 0, 1, 0, 1};
        for (int i = 0; i < vary.length; i++) {
            c.fresh();
            c.put("PUT /1\nvary: " + vary[i] + "\n\n");
            c.get("GET /1\n\n");
            c.due("vary " + vary[i], c.x.entry(5, 1, 0, 0, 6), sums[i]);
        }
    }
}
