/** Promise 7: deliver: what becomes of each message where it comes. */
public final class P07DeliverTest {
    public static void main(String[] args) {
        Check c = new Check("promise 7");
        places(c);
        stepByStep(c);
        missingBlocks(c);
        notModified(c);
        waitersInTurn(c);
        firstIsAnsweredFromTheFill(c);
        blocksOfANewVersion(c);
        notFound(c);
        toANodeThatIsDown(c);
        lateFillIsPassedOver(c);
        noStore(c);
        otherVary(c);
        staleAtTheParent(c);
        forcedGoesThrough(c);
        leastMark(c);
        c.end();
    }

    private static void places(Check c) {
        c.due("none waits", c.x.deliver(0), false);
        c.ask("GET /1\n\n");
        c.ask("GET /2\n\n");
        int[] none = {-1, 2, Integer.MIN_VALUE, Integer.MAX_VALUE};
        for (int k : none) {
            c.due("deliver " + k, c.x.deliver(k), false);
        }
        c.due("none was delivered", c.x.total(0), 2);
        c.due("deliver 1", c.x.deliver(1), true);
        c.due("the first one waits on", c.message(0), "[0, 5, 1, 1, 1, 0, 0, 15, 0, 0, 0, 0]");
        c.due("what came by the second one", c.message(1), "[0, 2, 0, 1, 2, 0, 0, 15, 0, 0, 0, 0]");
        c.due("no more", c.x.total(0), 2);
    }

    private static void stepByStep(Check c) {
        c.fresh();
        c.put("PUT /1\nlength: 40\nvary: accept-language\ncache-control: max-age=10\n\n");
        int r = c.ask("GET /1\naccept-language: de\nrange: bytes=0-20\n\n");
        c.due("fetch of the edge", c.message(0), "[0, 5, 1, 1, 1, 0, 0, 1, 0, 0, 0, 1]");
        c.due("the edge", c.node(5), "[1, 0, 0, 0, 0, 1, 1, 1, 0, 0, 0, 0, 0]");
        c.x.tick(2);
        c.x.deliver(0);
        c.due("fetch of the parent", c.message(0), "[0, 1, 0, 1, 1, 0, 0, 1, 0, 0, 0, 1]");
        c.due("the parent", c.node(1), "[1, 0, 0, 0, 0, 1, 1, 1, 0, 0, 0, 0, 0]");
        c.x.deliver(0);
        c.due("fill of the origin", c.message(0), "[1, 0, 1, 1, 1, 0, 200, 1, 0, 0, 0, 1]");
        c.x.tick(3);
        c.x.deliver(0);
        c.due("fill of the parent", c.message(0), "[1, 1, 5, 1, 1, 0, 200, 1, 0, 0, 0, 1]");
        c.due("the ticks since the fill was sent", c.entry(1, 1, 0, 1), "[1, 3, 2, 0, 0, 0, 1]");
        c.due("its blocks", c.blocks(1, 1, 0, 1), "1100000000000000");
        c.due("the parent then", c.node(1), "[1, 1, 48, 0, 0, 1, 0, 0, 0, 0, 0, 0, 0]");
        c.x.tick(4);
        c.x.deliver(0);
        c.due("the age and the ticks since", c.entry(5, 1, 0, 1), "[1, 7, 2, 0, 0, 0, 1]");
        c.due("no message", c.x.total(0), 0);
        c.due("answer", c.answer(r), "[206, 1, 7, 21, 0, 133, 9, 5, 1]");
        c.due("text", c.text(r), "206 Partial Content\netag: \"9\"\nage: 7\ncache: miss\nvary: accept-language\n"
            + "content-range: bytes 0-20/40\nlength: 21\n\n" + Check.bytes(1, 0, 1, 1, 0, 20));
        r = c.ask("GET /1\naccept-language: de\nrange: bytes=0-20\n\n");
        c.due("a hit then", c.x.answer(r, 4), 1);
        r = c.ask("GET /1\nrange: bytes=0-20\n\n");
        c.due("not in another language", c.x.answer(r, 0), 0);
        c.due("which is asked for", c.message(0), "[0, 5, 1, 2, 1, 0, 0, 1, 0, 0, 0, 0]");
    }

    private static void missingBlocks(Check c) {
        c.fresh();
        c.put("PUT /1\nlength: 200\ncache-control: max-age=10\n\n");
        c.get("GET /1\nrange: bytes=32-63\n\n");
        c.get("GET /1\nrange: bytes=96-100\n\n");
        c.due("three blocks", c.blocks(5, 1, 0, 0), "0011001000000000");
        c.ask("GET /1\nrange: bytes=40-130\n\n");
        c.due("from the first to the last that is missing", c.message(0), "[0, 5, 1, 3, 1, 0, 4, 8, 0, 0, 0, 0]");
        c.x.deliver(0);
        c.due("at the parent, too", c.message(0), "[0, 1, 0, 3, 1, 0, 4, 8, 0, 0, 0, 0]");
        c.x.settle();
        c.due("blocks come to blocks", c.blocks(5, 1, 0, 0), "0011111110000000");
        c.due("answered", c.x.answer(2, 3), 91);
        c.x.tick(10);
        c.ask("GET /1\nrange: bytes=40-160\n\n");
        c.due("all of its own, if it is not fresh", c.message(0), "[0, 5, 1, 4, 1, 0, 2, 10, 0, 0, 0, 0]");
        c.x.settle();
        c.ask("GET /1\nrange: bytes=0-200\ncache-control: no-cache\n\n");
        c.due("all of its own with no-cache", c.message(0), "[0, 5, 1, 5, 1, 0, 0, 12, 0, 1, 0, 0]");
        c.x.settle();
        c.fresh();
        c.put("PUT /1\nlength: 200\ncache-control: max-age=10\n\n");
        c.get("GET /1\nrange: bytes=0-15\n\n");
        c.ask("GET /1\nrange: bytes=0-40\nif-range: \"8\"\n\n");
        c.due("missing with if-range", c.message(0), "[0, 5, 1, 2, 1, 0, 1, 2, 0, 0, 0, 0]");
        c.x.settle();
        c.ask("GET /1\nrange: bytes=0-40\nif-range: \"9\"\n\n");
        c.due("missing with another if-range", c.message(0), "[0, 5, 1, 3, 1, 0, 3, 12, 0, 0, 0, 0]");
    }

    private static void notModified(Check c) {
        c.fresh();
        c.put("PUT /1\nlength: 40\ncache-control: max-age=5\n\n");
        c.get("GET /1\n\n");
        c.x.tick(5);
        int r = c.ask("GET /1\n\n");
        c.due("has version 1", c.message(0), "[0, 5, 1, 2, 1, 0, 0, 15, 0, 0, 1, 0]");
        c.x.deliver(0);
        c.due("the parent has it, too", c.message(0), "[0, 1, 0, 2, 1, 0, 0, 15, 0, 0, 1, 0]");
        c.x.deliver(0);
        c.due("304 of the origin", c.message(0), "[1, 0, 1, 2, 1, 0, 304, 1, 0, 0, 0, 0]");
        c.x.deliver(0);
        c.due("304 of the parent", c.message(0), "[1, 1, 5, 2, 1, 0, 304, 1, 0, 0, 0, 0]");
        c.due("blocks stay", c.entry(1, 1, 0, 0), "[1, 0, 3, 0, 0, 0, 0]");
        c.x.deliver(0);
        c.due("answered", c.answer(r), "[200, 1, 0, 40, 0, 88, 5, 5, 0]");
        c.due("fresh again", c.x.answer(c.ask("GET /1\n\n"), 4), 1);
        c.x.tick(5);
        c.put("PUT /1\nlength: 20\ncache-control: max-age=5\n\n");
        r = c.ask("GET /1\n\n");
        c.x.deliver(0);
        c.x.deliver(0);
        c.due("200 if it is another version", c.message(0), "[1, 0, 1, 3, 1, 0, 200, 2, 0, 0, 0, 0]");
        c.x.settle();
        c.due("the new one", c.answer(r), "[200, 2, 0, 20, 0, 69, 10, 5, 0]");
        c.due("has no old blocks", c.blocks(5, 1, 0, 0), "1100000000000000");
        // an entry that goes before its 304 comes: the fetch is made again
        c.x.tick(5);
        r = c.ask("GET /1\n\n");
        c.x.deliver(0);
        c.x.deliver(0);
        c.x.deliver(0);
        c.due("304 is under way", c.message(0), "[1, 1, 5, 4, 1, 0, 304, 2, 0, 0, 0, 0]");
        c.x.budget(5, 32);
        c.due("the entry went", c.x.entry(5, 1, 0, 0, 0), -1);
        int misses = c.x.node(5, 5);
        c.x.deliver(0);
        c.due("refused", c.message(0), "[0, 5, 1, 5, 1, 0, 0, 15, 0, 0, 0, 0]");
        c.due("no miss", c.x.node(5, 5), misses);
        c.x.settle();
        c.due("answered in the end", c.x.answer(r, 0), 200);
    }

    private static void waitersInTurn(Check c) {
        c.fresh();
        c.put("PUT /1\nlength: 40\ncache-control: max-age=10\n\n");
        int a = c.ask("GET /1\n\n");
        int b = c.ask("HEAD /1\nrange: bytes=3-7\n\n");
        int d = c.ask("GET /1\ncache-control: no-cache\n\n");
        int e = c.ask("GET /1\n\n");
        c.due("one fetch", c.x.total(0), 1);
        c.due("four wait, one miss", c.node(5), "[1, 0, 0, 0, 0, 1, 1, 4, 0, 0, 0, 0, 0]");
        for (int i = 0; i < 4; i++) {
            c.x.deliver(0);
        }
        c.due("the first", c.x.answer(a, 4), 0);
        c.due("the first is answered", c.x.answer(a, 0), 200);
        c.due("the second is a hit", c.answer(b), "[206, 1, 0, 5, 1, 87, 0, 5, 0]");
        c.due("the third asks again", c.x.answer(d, 0), 0);
        c.due("the fourth is a hit, too", c.x.answer(e, 4), 1);
        c.due("two hits, two misses", c.node(5), "[1, 1, 64, 1, 2, 2, 1, 1, 0, 0, 0, 0, 0]");
        c.due("forced", c.message(0), "[0, 5, 1, 2, 1, 0, 0, 15, 0, 1, 1, 0]");
        c.x.settle();
        c.due("the third", c.x.answer(d, 0), 200);
        c.due("is no hit", c.x.answer(d, 4), 0);
        c.due("a fill keeps it in kept", c.entry(5, 1, 0, 0), "[1, 0, 3, 0, 1, 0, 0]");
    }

    private static void firstIsAnsweredFromTheFill(Check c) {
        c.fresh();
        c.put("PUT /1\nlength: 40\n\n");
        int a = c.ask("GET /1\n\n");
        int b = c.ask("GET /1\n\n");
        c.due("two chains", c.x.settle(), 8);
        c.due("max-age 0 is enough for the first", c.x.answer(a, 0), 200);
        c.due("and then for the second", c.x.answer(b, 0), 200);
        c.due("two misses at the edge", c.x.node(5, 5), 2);
        c.due("two misses at the parent", c.x.node(1, 5), 2);
        // the fill is too narrow for the one that waits for what is stale
        c.fresh();
        c.put("PUT /1\nlength: 90\ncache-control: max-age=5, stale-while-revalidate=5\n\n");
        c.get("GET /1\nrange: bytes=0-15\n\n");
        c.x.tick(5);
        c.ask("GET /1\nrange: bytes=0-15\n\n");
        c.due("a fetch for what is stale", c.message(0), "[0, 5, 1, 2, 1, 0, 0, 0, 0, 0, 1, 0]");
        c.due("is no miss", c.x.node(5, 5), 1);
        c.due("nobody waits", c.x.node(5, 7), 0);
        int r = c.ask("GET /1\nrange: bytes=0-40\n\n");
        c.due("it waits", c.x.node(5, 7), 1);
        c.x.deliver(0);
        c.due("the parent gives it out stale", c.message(0), "[1, 1, 5, 2, 1, 0, 304, 1, 0, 0, 0, 0]");
        c.due("and asks itself", c.message(1), "[0, 1, 0, 2, 1, 0, 0, 0, 0, 0, 1, 0]");
        c.x.deliver(1);
        c.x.deliver(1);
        c.x.deliver(0);
        c.due("looked at again: all of its own", c.message(0), "[0, 5, 1, 3, 1, 0, 0, 2, 0, 0, 0, 0]");
        c.x.settle();
        c.due("answered", c.x.answer(r, 3), 41);
    }

    private static void blocksOfANewVersion(Check c) {
        c.fresh();
        c.put("PUT /1\nlength: 90\ncache-control: max-age=50\n\n");
        c.get("GET /1\nrange: bytes=0-31\n\n");
        c.put("PUT /1\nlength: 80\ncache-control: max-age=50\n\n");
        int r = c.ask("GET /1\nrange: bytes=0-50\n\n");
        c.due("what is missing", c.message(0), "[0, 5, 1, 2, 1, 0, 2, 3, 0, 0, 0, 0]");
        c.x.deliver(0);
        c.x.deliver(0);
        c.x.deliver(0);
        c.due("enough for the edge's fetch", c.message(0), "[1, 1, 5, 2, 1, 0, 200, 2, 0, 0, 0, 0]");
        c.x.deliver(0);
        c.due("not enough at the edge: all of its own", c.message(0), "[0, 5, 1, 3, 1, 0, 0, 3, 0, 0, 0, 0]");
        c.due("just the new blocks", c.blocks(5, 1, 0, 0), "0011000000000000");
        c.due("a miss again", c.x.node(5, 5), 3);
        c.x.deliver(0);
        c.due("the parent lacks two", c.message(0), "[0, 1, 0, 3, 1, 0, 0, 1, 0, 0, 0, 0]");
        c.x.settle();
        c.due("answered with version 2", c.answer(r), "[206, 2, 0, 51, 0, 142, 0, 5, 0]");
        c.due("all blocks", c.blocks(5, 1, 0, 0), "1111000000000000");
    }

    private static void notFound(Check c) {
        c.fresh();
        c.put("PUT /1\nlength: 9\nvary: accept-language\n\n");
        c.get("GET /1\n\n");
        c.get("GET /1\naccept-language: it\n\n");
        c.due("two entries", c.x.node(5, 1), 2);
        c.x.drop(1);
        int a = c.ask("GET /1\n\n");
        int b = c.ask("HEAD /1\naccept-language: fr\n\n");
        c.x.deliver(0);
        c.x.deliver(0);
        c.due("404 of the origin", c.message(0), "[1, 0, 1, 3, 1, 0, 404, 0, 0, 0, 0, 0]");
        c.x.deliver(0);
        c.due("all go at the parent", c.x.node(1, 1), 0);
        c.due("404 of the parent", c.message(0), "[1, 1, 5, 3, 1, 0, 404, 0, 0, 0, 0, 0]");
        c.x.tick(1);
        c.x.deliver(0);
        c.due("all go at the edge", c.x.node(5, 1), 0);
        c.due("the first", c.answer(a), "[404, 0, 0, 0, 0, 15, 1, 5, 0]");
        c.due("the second", c.text(b), "404 Not Found\n\n");
        c.due("none waits", c.x.node(5, 7), 0);
        c.ask("GET /9/3\n\n");
        c.x.deliver(0);
        c.x.deliver(0);
        c.due("404 of another variant", c.message(0), "[1, 0, 1, 4, 9, 3, 404, 0, 0, 0, 0, 0]");
    }

    private static void toANodeThatIsDown(Check c) {
        c.fresh();
        int r = c.ask("GET /1\n\n");
        c.x.fail(1);
        c.due("deliver to 1", c.x.deliver(0), true);
        c.due("it is gone", c.x.total(0), 0);
        c.due("but not lost", c.x.total(4), 0);
        c.due("the request waits on", c.x.answer(r, 0), 0);
        c.due("the fetch is out", c.x.node(5, 6), 1);
    }

    private static void lateFillIsPassedOver(Check c) {
        c.fresh();
        c.put("PUT /1\nlength: 9\ncache-control: max-age=90\n\n");
        int r = c.ask("GET /1\n\n");
        c.x.deliver(0);
        c.x.deliver(0);
        c.x.deliver(0);
        c.x.tick(10);
        c.due("504", c.x.answer(r, 0), 504);
        int s = c.ask("GET /1\n\n");
        c.due("deliver the late one", c.x.deliver(0), true);
        c.due("nothing is kept of it", c.x.node(5, 1), 0);
        c.due("the strike stays", c.x.node(5, 9), 1);
        c.due("the next one waits on", c.x.answer(s, 0), 0);
        c.due("its number", c.x.message(0, 3), 2);
        c.x.settle();
        c.due("and is answered", c.x.answer(s, 2), 10);
    }

    private static void noStore(Check c) {
        c.fresh();
        c.put("PUT /1\nlength: 40\ncache-control: max-age=9\n\n");
        c.get("GET /1\nrange: bytes=0-15\n\n");
        c.put("PUT /1\nlength: 30\ncache-control: max-age=9, no-store\n\n");
        c.x.tick(9);
        int a = c.ask("GET /1\nrange: bytes=0-15\n\n");
        int b = c.ask("GET /1\nrange: bytes=0-15\n\n");
        c.x.settle();
        c.due("answered all the same", c.x.answer(a, 0), 206);
        c.due("the second, too", c.x.answer(b, 0), 206);
        c.due("by a fetch of its own", c.x.node(5, 5), 3);
        c.due("the old one went at the edge", c.x.node(5, 1), 0);
        c.due("and at the parent", c.x.node(1, 1), 0);
    }

    private static void otherVary(Check c) {
        c.fresh();
        c.put("PUT /1\nlength: 40\nvary: accept-language\ncache-control: max-age=9\n\n");
        c.get("GET /1\naccept-language: de\n\n");
        c.get("GET /1\naccept-language: fr\n\n");
        c.get("GET /1/1\naccept-language: fr\n\n");
        c.get("GET /1\naccept-language: fr\n\n");
        c.due("in kept", c.x.entry(5, 1, 0, 2, 4), 1);
        c.put("PUT /1\nlength: 40\nvary: accept-encoding\ncache-control: max-age=9\n\n");
        c.get("GET /1\naccept-language: it\naccept-encoding: gzip\n\n");
        c.due("others of the key went", c.x.node(5, 1), 1);
        c.due("the new one", c.entry(5, 1, 0, 4), "[2, 0, 3, 0, 0, 0, 2]");
        c.due("the other key stays", c.entry(4, 1, 1, 2), "[1, 0, 3, 0, 0, 0, 1]");
        int r = c.ask("GET /1\naccept-language: de\naccept-encoding: gzip\n\n");
        c.due("suits any language", c.x.answer(r, 4), 1);
        c.due("which", c.x.answer(r, 8), 4);
        c.due("not without gzip", c.x.answer(c.ask("GET /1\n\n"), 0), 0);
    }

    private static void staleAtTheParent(Check c) {
        c.fresh();
        c.put("PUT /1\nlength: 20\ncache-control: max-age=5, stale-while-revalidate=5\n\n");
        c.get("GET /1\n\n");
        c.x.fail(5);
        c.x.back(5);
        c.x.tick(6);
        int r = c.ask("GET /1\n\n");
        c.x.deliver(0);
        c.due("a fill at once", c.message(0), "[1, 1, 5, 2, 1, 0, 200, 1, 0, 0, 0, 0]");
        c.due("and a fetch", c.message(1), "[0, 1, 0, 2, 1, 0, 0, 15, 0, 0, 1, 0]");
        c.x.tick(1);
        c.x.deliver(0);
        c.due("no stale one at the edge", c.answer(r), "[200, 1, 7, 20, 0, 68, 7, 5, 0]");
        c.due("not used at the parent", c.x.entry(1, 1, 0, 0, 4), 0);
        c.due("no hit at the parent", c.x.node(1, 4), 0);
        c.x.settle();
        c.x.fail(5);
        c.x.back(5);
        c.ask("GET /1\n\n");
        c.x.deliver(0);
        c.due("a hit at the parent", c.x.node(1, 4), 1);
        c.due("used at the parent", c.x.entry(1, 1, 0, 0, 4), 1);
    }

    private static void forcedGoesThrough(Check c) {
        c.fresh();
        c.put("PUT /1\nlength: 20\ncache-control: max-age=50\n\n");
        c.get("GET /1\n\n");
        c.put("PUT /1\nlength: 20\ncache-control: max-age=50\n\n");
        c.due("the old one", c.x.answer(c.get("GET /1\n\n"), 1), 1);
        int r = c.ask("GET /1\ncache-control: no-cache\n\n");
        c.due("forced", c.message(0), "[0, 5, 1, 2, 1, 0, 0, 15, 0, 1, 1, 0]");
        c.x.deliver(0);
        c.due("forced at the parent", c.message(0), "[0, 1, 0, 2, 1, 0, 0, 15, 0, 1, 1, 0]");
        c.x.settle();
        c.due("the new one", c.x.answer(r, 1), 2);
    }

    private static void leastMark(Check c) {
        c.fresh();
        c.put("PUT /1\nlength: 20\ncache-control: max-age=50\n\n");
        c.get("GET /1\n\n");
        c.due("purge of another path", c.x.purge(0, 9), 1);
        // the purge comes to the edge, but not yet to the parent
        c.x.deliver(4);
        c.x.tick(1);
        int r = c.ask("GET /1\ncache-control: max-age=0\n\n");
        int last = c.x.total(0) - 1;
        c.due("it tells what it has seen, and has nothing since", c.message(last), "[0, 5, 1, 2, 1, 0, 0, 15, 1, 0, 0, 0]");
        c.x.deliver(last);
        last = c.x.total(0) - 1;
        c.due("the parent's entry is too old", c.message(last), "[0, 1, 0, 2, 1, 0, 0, 15, 0, 0, 1, 0]");
        c.x.deliver(last);
        last = c.x.total(0) - 1;
        c.due("the origin's mark", c.message(last), "[1, 0, 1, 2, 1, 0, 304, 1, 1, 0, 0, 0]");
        c.x.deliver(last);
        last = c.x.total(0) - 1;
        c.due("the parent's entry has it then", c.message(last), "[1, 1, 5, 2, 1, 0, 200, 1, 1, 0, 0, 0]");
        c.x.deliver(last);
        c.due("answered", c.x.answer(r, 0), 200);
        c.due("the mark at the edge", c.x.entry(5, 1, 0, 0, 3), 1);
    }
}
