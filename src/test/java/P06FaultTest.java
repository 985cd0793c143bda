/** Promise 6: fault: where a REQUEST can't go on (P03UpdateTest has the THINGS). */
public final class P06FaultTest {
    public static void main(String[] args) {
        Check c = new Check("promise 6");
        c.due("no text yet", c.x.fault(), -1);
        latestOne(c);
        goodOnes(c);
        firstLines(c);
        names(c);
        ranges(c);
        tags(c);
        lists(c);
        c.end();
    }

    private static void latestOne(Check c) {
        c.ask("GET /1\nx\n\n");
        c.due("behind a bad one", c.x.fault(), 8);
        c.type("GET");
        c.due("while another one is typed", c.x.fault(), 8);
        c.x.ask();
        c.due("of the latest one", c.x.fault(), 3);
        c.due("again", c.x.fault(), 3);
        c.put("PUT /1\n\n");
        c.due("behind a good thing", c.x.fault(), -1);
        c.put("PUT /1/1\n\n");
        c.due("behind a bad thing", c.x.fault(), 6);
        c.ask("GET /1\n\n");
        c.due("behind a good request", c.x.fault(), -1);
    }

    private static void good(Check c, String text) {
        c.fresh();
        int r = c.ask(text);
        c.due("fault of <" + text + ">", c.x.fault(), -1);
        c.due("status of <" + text + ">", c.x.answer(r, 0), 0);
    }

    private static void wrong(Check c, String text, int fault) {
        c.fresh();
        int r = c.ask(text);
        c.due("fault of <" + text + ">", c.x.fault(), fault);
        c.due("status of <" + text + ">", c.x.answer(r, 0), 400);
    }

    private static void goodOnes(Check c) {
        good(c, "GET /0\n\n");
        good(c, "HEAD /31/3\n\n");
        good(c, "GET /00031/00003\n\n");
        good(c, "GET /1\nrange:bytes=1-2\n\n");
        good(c, "GET /1\nrange: bytes=00001-99999\n\n");
        good(c, "GET /1\nrange: bytes=5-\n\n");
        good(c, "GET /1\nrange: bytes=-5\n\n");
        good(c, "GET /1\nrange: bytes=9-3\n\n");
        good(c, "GET /1\nif-none-match: *\n\n");
        good(c, "GET /1\nif-none-match: \"1\", \"2\", \"3\", \"4\", \"5\", \"6\", \"7\", \"00008\"\n\n");
        good(c, "GET /1\nif-range: \"8\"\n\n");
        good(c, "GET /1\nx:\n-: -\n--:\n\n");
        good(c, "GET /1\nlength: x\nkeys: z\nvary:\n\n");
        good(c, "GET /1\nrange-: bytes\nrang: e\n\n");
        good(c, "GET /1\naccept-language: en, de=3, -=0\n\n");
    }

    private static void firstLines(Check c) {
        wrong(c, "", 0);
        wrong(c, "\n", 0);
        wrong(c, "get /1\n\n", 0);
        wrong(c, "GE", 2);
        wrong(c, "GOT /1\n\n", 1);
        wrong(c, "GETS /1\n\n", 3);
        wrong(c, "HEAP /1\n\n", 3);
        wrong(c, "HEAD", 4);
        wrong(c, "HEAD/1\n\n", 4);
        wrong(c, "PUT /1\n\n", 0);
        wrong(c, "GET  /1\n\n", 4);
        wrong(c, "GET x\n\n", 4);
        wrong(c, "GET /\n\n", 5);
        wrong(c, "GET /x\n\n", 5);
        wrong(c, "GET /-1\n\n", 5);
        wrong(c, "GET /32\n\n", 5);
        wrong(c, "GET /321\n\n", 5);
        wrong(c, "GET /123456\n\n", 5);
        wrong(c, "GET /000011\n\n", 10);
        wrong(c, "GET /1/\n\n", 7);
        wrong(c, "GET /1/4\n\n", 7);
        wrong(c, "GET /1/000001\n\n", 12);
        wrong(c, "GET /1/1/1\n\n", 8);
        wrong(c, "GET /1 \n\n", 6);
        wrong(c, "GET /1/1 \n\n", 8);
        wrong(c, "GET /1x\n\n", 6);
        wrong(c, "GET /1", 6);
        wrong(c, "GET /1\n", 7);
        wrong(c, "GET /1\n\nx", 8);
        wrong(c, "GET /1\n\n\n", 8);
    }

    private static void names(Check c) {
        wrong(c, "GET /1\nx\n\n", 8);
        wrong(c, "GET /1\nx", 8);
        wrong(c, "GET /1\nx:", 9);
        wrong(c, "GET /1\nx :y\n\n", 8);
        wrong(c, "GET /1\n x:y\n\n", 7);
        wrong(c, "GET /1\n:y\n\n", 7);
        wrong(c, "GET /1\nX:y\n\n", 7);
        wrong(c, "GET /1\nx1:y\n\n", 8);
        wrong(c, "GET /1\na: b\na: c\n\n", 12);
        wrong(c, "GET /1\na: b\nb: c\na:\n\n", 17);
        wrong(c, "GET /1\nabcdefghijklmnopqrstu: y\n\n", 7);
        wrong(c, "GET /1\na: b\nabcdefghijklmnopqrstuvwxyz", 12);
        wrong(c, "GET /1\nrange: bytes=1-2\nrange: bytes=1-2\n\n", 24);
    }

    private static void ranges(Check c) {
        wrong(c, "GET /1\nrange: \n\n", 14);
        wrong(c, "GET /1\nrange:  bytes=1-2\n\n", 14);
        wrong(c, "GET /1\nrange: byte=1-2\n\n", 18);
        wrong(c, "GET /1\nrange: bytes 1-2\n\n", 19);
        wrong(c, "GET /1\nrange: bytes=\n\n", 20);
        wrong(c, "GET /1\nrange: bytes=5\n\n", 21);
        wrong(c, "GET /1\nrange: bytes=-\n\n", 21);
        wrong(c, "GET /1\nrange: bytes=--1\n\n", 21);
        wrong(c, "GET /1\nrange: bytes=1--2\n\n", 22);
        wrong(c, "GET /1\nrange: bytes=1-2-\n\n", 23);
        wrong(c, "GET /1\nrange: bytes=1-2, 4-5\n\n", 23);
        wrong(c, "GET /1\nrange: bytes=1- 2\n\n", 22);
        wrong(c, "GET /1\nrange: bytes=123456-\n\n", 25);
        wrong(c, "GET /1\nrange: bytes=1-123456\n\n", 27);
        wrong(c, "GET /1\nrange: bytes=-123456\n\n", 26);
        wrong(c, "GET /1\nrange: bytes=1-2 \n\n", 23);
        wrong(c, "GET /1\nrange: bytes=1-", 22);
    }

    private static void tags(Check c) {
        wrong(c, "GET /1\nif-none-match: \n\n", 22);
        wrong(c, "GET /1\nif-none-match: 5\n\n", 22);
        wrong(c, "GET /1\nif-none-match: \"\"\n\n", 23);
        wrong(c, "GET /1\nif-none-match: \"5\n\n", 24);
        wrong(c, "GET /1\nif-none-match: \" 5\"\n\n", 23);
        wrong(c, "GET /1\nif-none-match: \"5 \"\n\n", 24);
        wrong(c, "GET /1\nif-none-match: \"123456\"\n\n", 28);
        wrong(c, "GET /1\nif-none-match: \"5\",\"6\"\n\n", 26);
        wrong(c, "GET /1\nif-none-match: \"5\", *\n\n", 27);
        wrong(c, "GET /1\nif-none-match: *, \"5\"\n\n", 23);
        wrong(c, "GET /1\nif-none-match: **\n\n", 23);
        wrong(c, "GET /1\nif-none-match: \"1\", \"2\", \"3\", \"4\", \"5\", \"6\", \"7\", \"8\", \"9\"\n\n", 60);
        wrong(c, "GET /1\nif-range: *\n\n", 17);
        wrong(c, "GET /1\nif-range: 8\n\n", 17);
        wrong(c, "GET /1\nif-range: \"8\n\n", 19);
        wrong(c, "GET /1\nif-range: \"8\", \"9\"\n\n", 20);
    }

    private static void lists(Check c) {
        String[] names = {"accept-language", "accept-encoding", "cache-control"};
        for (String name : names) {
            String head = "GET /1\n" + name + ": ";
            int at = head.length();
            wrong(c, head + "\n\n", at);
            wrong(c, head + "a,b\n\n", at + 2);
            wrong(c, head + "a, \n\n", at + 3);
            wrong(c, head + "a b\n\n", at + 1);
            wrong(c, head + "a,\n\n", at + 2);
            wrong(c, head + "a,  b\n\n", at + 3);
            wrong(c, head + "a=\n\n", at + 2);
            wrong(c, head + "a=b\n\n", at + 2);
            wrong(c, head + "a=1x\n\n", at + 3);
            wrong(c, head + "a=123456\n\n", at + 7);
            wrong(c, head + "a =1\n\n", at + 1);
            wrong(c, head + "=1\n\n", at);
            wrong(c, head + "*\n\n", at);
            wrong(c, head + "abcdefghijklmnopqrstuvwxyzabcde\n\n", at);
            wrong(c, head + "a, abcdefghijklmnopqrstuvwxyzabcde=1\n\n", at + 3);
            wrong(c, head + "a", at + 1);
            good(c, head + "abcdefghijklmnopqrstuvwxyzabcd=99999, b\n\n");
        }
    }
}
