/** Promise 5: ask: where a REQUEST goes, and what it says. */
public final class P05AskTest {
    public static void main(String[] args) {
        Check c = new Check("promise 5");
        ringOfAllKeys(c);
        ringWithoutSome(c);
        numbersAndWrongOnes(c);
        atMost300(c);
        languages(c);
        forms(c);
        blocksAskedFor(c);
        forced(c);
        ages(c);
        staleness(c);
        onlyIfCached(c);
        c.end();
    }

    private static void ringOfAllKeys(Check c) {
        for (int path = 0; path < 32; path++) {
            c.fresh();
            for (int variant = 0; variant < 4; variant++) {
                int r = c.ask("GET /" + path + "/" + variant + "\n\n");
                String key = " of " + path + "/" + variant;
                c.due("edge" + key, c.x.answer(r, 7), Check.edge(path, variant));
                c.due("from" + key, c.x.message(variant, 1), Check.edge(path, variant));
                c.due("to" + key, c.x.message(variant, 2), Check.parent(path, variant));
                c.due("path" + key, c.x.message(variant, 4), path);
                c.due("variant" + key, c.x.message(variant, 5), variant);
            }
        }
        c.fresh();
        c.ask("GET /7\n\n");
        c.due("variant 0 without", c.x.message(0, 5), 0);
    }

    private static void ringWithoutSome(Check c) {
        for (int path = 0; path < 32; path += 3) {
            c.fresh();
            c.x.fail(4);
            c.x.fail(6);
            c.x.fail(1);
            int r = c.ask("GET /" + path + "/1\n\n");
            c.due("edge of " + path, c.x.answer(r, 7), Check.ring(new int[] {3, 5}, path, 1));
            c.due("parent of " + path, c.x.message(0, 2), 2);
            c.x.back(6);
            c.x.fail(3);
            r = c.ask("GET /" + path + "/2\n\n");
            c.due("edge of " + path, c.x.answer(r, 7), Check.ring(new int[] {5, 6}, path, 2));
        }
    }

    private static void numbersAndWrongOnes(Check c) {
        c.fresh();
        c.due("first", c.ask("GET /1\n\n"), 0);
        c.due("second, which is none", c.ask("GET /1\n"), 1);
        c.due("its status", c.answer(1), "[400, 0, 0, 0, 0, 17, 0, 0, 0]");
        c.due("its text", c.text(1), "400 Bad Request\n\n");
        c.due("come", c.x.total(2), 2);
        c.due("answered", c.x.total(3), 1);
        c.due("a thing is none", c.ask("PUT /1\n\n"), 2);
        c.due("status of a thing", c.x.answer(2, 0), 400);
        c.due("an empty tape is none", c.x.ask(), 3);
        c.due("the tape was emptied", c.ask("HEAD /1\n\n"), 4);
        c.due("it waits", c.x.answer(4, 0), 0);
        for (int n = 3; n <= 6; n++) {
            c.x.fail(n);
        }
        c.x.tick(2);
        c.due("no edge is up", c.ask("GET /1\n\n"), 5);
        c.due("503", c.answer(5), "[503, 0, 0, 0, 0, 25, 2, 0, 0]");
        c.due("its text", c.text(5), "503 Service Unavailable\n\n");
        c.due("a good text all the same", c.x.fault(), -1);
        c.due("one that is none", c.ask("GET 1\n\n"), 6);
        c.due("400 before 503", c.x.answer(6, 0), 400);
        c.due("answered", c.x.total(3), 7);
    }

    private static void atMost300(Check c) {
        c.fresh();
        for (int i = 0; i < 299; i++) {
            c.due("number", c.x.ask(), i);
        }
        c.due("the 300th", c.ask("GET /1\n\n"), 299);
        c.type("PUT /1\n\n");
        c.due("the 301st", c.x.ask(), -1);
        c.due("come", c.x.total(2), 300);
        c.due("the tape is as it was", c.update(), 1);
        c.type("GET /x\n\n");
        c.due("the next one", c.x.ask(), -1);
        c.due("no fault of it", c.x.fault(), -1);
        c.due("messages", c.x.total(0), 1);
        c.due("answered", c.x.total(3), 299);
    }

    private static int choice(Check c, String line) {
        c.fresh();
        c.ask("GET /1\n" + line + "\n\n");
        return c.x.message(0, 11);
    }

    private static void languages(Check c) {
        String[] lists = {"en", "de", "fr", "it", "xx", "de, fr", "fr, de", "de=3, fr=4", "de=3, fr=3", "de=0",
            "en=8, it", "en=10, it", "de=9, fr", "de, de=1, fr=2", "de=0, en=0, it=1", "de=0, de", "en=0, fr=00001",
            "gzip, it", "it=99999, fr=99998", "de-fr, i"};
        int[] due = {0, 1, 2, 3, 0, 1, 1, 2, 1, 0, 3, 0, 1, 2, 3, 1, 2, 3, 3, 0};
        for (int i = 0; i < lists.length; i++) {
            c.due("language of " + lists[i], choice(c, "accept-language: " + lists[i]), due[i]);
        }
    }

    private static void forms(Check c) {
        String[] lists = {"gzip", "br", "gzip=0", "gzip=1", "gzip=0, gzip", "gzip, gzip=0", "br=9, gzip=1", "gzip-x", "de"};
        int[] due = {4, 0, 0, 4, 4, 0, 4, 0, 0};
        for (int i = 0; i < lists.length; i++) {
            c.due("form of " + lists[i], choice(c, "accept-encoding: " + lists[i]), due[i]);
        }
        c.due("both", choice(c, "accept-encoding: gzip\naccept-language: it"), 7);
    }

    private static void blocksAskedFor(Check c) {
        String[] lines = {"x: y", "range: bytes=0-0", "range: bytes=15-16", "range: bytes=16-31", "range: bytes=40-",
            "range: bytes=255-255", "range: bytes=256-300", "range: bytes=99999-99999", "range: bytes=30-99999",
            "range: bytes=-5", "range: bytes=-0", "range: bytes=9-8", "range: bytes=20-30\nif-range: \"8\"",
            "if-range: \"8\"\nrange: bytes=20-30", "range: bytes=99999-", "range: bytes=0020-0030"};
        int[] first = {0, 0, 0, 1, 2, 15, 15, 15, 1, 0, 0, 0, 0, 0, 15, 1};
        int[] last = {15, 0, 1, 1, 15, 15, 15, 15, 15, 15, 15, 15, 15, 15, 15, 1};
        for (int i = 0; i < lines.length; i++) {
            c.fresh();
            c.ask("GET /1\n" + lines[i] + "\n\n");
            c.due("first block of " + lines[i], c.x.message(0, 6), first[i]);
            c.due("last block of " + lines[i], c.x.message(0, 7), last[i]);
        }
    }

    private static void forced(Check c) {
        String[] lists = {"no-cache", "no-cache=1", "max-age=0", "foo, no-cache", "no-store"};
        int[] due = {1, 0, 0, 1, 0};
        for (int i = 0; i < lists.length; i++) {
            c.fresh();
            c.ask("GET /1\ncache-control: " + lists[i] + "\n\n");
            c.due("forced by " + lists[i], c.x.message(0, 9), due[i]);
        }
    }

    /** How a request with this cache-control is answered at once from an entry; -1 if it waits, -504 if it gets that. */
    private static int how(Check c, String told, int ticks, String asked) {
        c.fresh();
        c.put("PUT /1\nlength: 20\ncache-control: " + told + "\n\n");
        c.get("GET /1\n\n");
        if (ticks > 0) {
            c.x.tick(ticks);
        }
        int r = c.ask("GET /1\ncache-control: " + asked + "\n\n");
        int status = c.x.answer(r, 0);
        return status == 200 ? c.x.answer(r, 4) : status == 0 ? -1 : -status;
    }

    private static void ages(Check c) {
        c.due("fresh", how(c, "max-age=10", 9, "foo"), 1);
        c.due("not fresh", how(c, "max-age=10", 10, "foo"), -1);
        c.due("max-age of the request", how(c, "max-age=10", 4, "max-age=4"), 1);
        c.due("above max-age of the request", how(c, "max-age=10", 5, "max-age=4"), -1);
        c.due("the last max-age", how(c, "max-age=10", 5, "max-age=4, max-age=6"), 1);
        c.due("max-age without a number", how(c, "max-age=10", 5, "max-age=4, max-age"), -1);
        c.due("max-age 0", how(c, "max-age=10", 0, "max-age=0"), 1);
        c.due("min-fresh", how(c, "max-age=10", 4, "min-fresh=5"), 1);
        c.due("not min-fresh", how(c, "max-age=10", 5, "min-fresh=5"), -1);
        c.due("the last min-fresh", how(c, "max-age=10", 5, "min-fresh=5, min-fresh=4"), 1);
        c.due("min-fresh without a number", how(c, "max-age=10", 5, "min-fresh"), 1);
        c.due("no-cache", how(c, "max-age=10", 0, "no-cache"), -1);
        c.due("no-cache of the thing", how(c, "max-age=10, no-cache", 0, "foo"), -1);
    }

    private static void staleness(Check c) {
        c.due("max-stale", how(c, "max-age=10", 99, "max-stale"), 2);
        c.due("max-stale=5", how(c, "max-age=10", 14, "max-stale=5"), 2);
        c.due("beyond max-stale=5", how(c, "max-age=10", 15, "max-stale=5"), -1);
        c.due("the last max-stale with N", how(c, "max-age=10", 15, "max-stale, max-stale=5"), -1);
        c.due("the last max-stale without N", how(c, "max-age=10", 15, "max-stale=5, max-stale"), 2);
        c.due("max-stale, fresh: a hit", how(c, "max-age=10", 3, "max-stale"), 1);
        c.due("max-stale with max-age", how(c, "max-age=10", 5, "max-stale=1, max-age=2"), 2);
        c.due("max-stale with min-fresh", how(c, "max-age=10", 5, "max-stale=1, min-fresh=8"), 2);
        c.due("max-stale with no-cache", how(c, "max-age=10", 5, "max-stale, no-cache"), -1);
        c.due("max-stale of a thing with no-cache", how(c, "max-age=10, no-cache", 4, "max-stale=5"), 2);
        c.due("beyond it", how(c, "max-age=10, no-cache", 5, "max-stale=5"), -1);
        c.due("while revalidating", how(c, "max-age=10, stale-while-revalidate=5", 14, "foo"), 2);
        c.due("beyond that", how(c, "max-age=10, stale-while-revalidate=5", 15, "foo"), -1);
        c.due("not with max-age", how(c, "max-age=10, stale-while-revalidate=5", 14, "max-age=50"), -1);
        c.due("not with min-fresh", how(c, "max-age=10, stale-while-revalidate=5", 14, "min-fresh=0"), -1);
        c.due("max-stale=0 with it", how(c, "max-age=10, stale-while-revalidate=5", 14, "max-stale=0"), 2);
    }

    private static void onlyIfCached(Check c) {
        c.due("fresh", how(c, "max-age=10", 9, "only-if-cached"), 1);
        c.due("not fresh", how(c, "max-age=10", 10, "only-if-cached"), -504);
        c.due("stale", how(c, "max-age=10", 10, "only-if-cached, max-stale"), 2);
        c.due("with a number it does not count", how(c, "max-age=10", 10, "only-if-cached=1"), -1);
        c.fresh();
        int r = c.ask("GET /1\ncache-control: only-if-cached\n\n");
        c.due("504 at once", c.text(r), "504 Gateway Timeout\n\n");
        c.due("its edge", c.x.answer(r, 7), 5);
        c.due("no miss", c.x.node(5, 5), 0);
        c.due("no message", c.x.total(0), 0);
        c.ask("GET /1\n\n");
        r = c.ask("GET /1\ncache-control: only-if-cached\n\n");
        c.due("504 while a fetch is out", c.x.answer(r, 0), 504);
    }
}
