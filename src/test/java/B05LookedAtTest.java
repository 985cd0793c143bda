import java.io.IOException;

/** Promise 5, ask: the sentences that name a boundary case of what becomes of a REQUEST that is LOOKED AT. */
public final class B05LookedAtTest {
    private static final String HAS = "its MARK is not below the least one, it has all BLOCKS of the BYTES wanted "
        + "(none, if there are none), and it is not FORCED nor no-cache";
    private static final String HIT = "whose age is below max-age (of its THING; 0 with no-cache), not above that of the REQUEST "
        + "(if it tells one), and with min-fresh added still below its THING's: a HIT: it is USED and ANSWERED from it.";
    private static final String MAX_STALE = "with max-stale, if its age is below max-age and that N together (any, without N; "
        + "whatever else the REQUEST tells)";
    private static final String WHILE = "or whose age is below max-age and stale-while-revalidate together "
        + "(that for a REQUEST with neither max-age nor min-fresh): ANSWERED from it, as STALE (not USED)";
    private static final String ONE_MADE = "then, if no FETCH for the KEY is out, one is made as told in 5 "
        + "(nobody WAITS for it; if there is no node to ask, nothing).";
    private static final String CACHED = "only-if-cached: 504.";
    private static final String WAITS = "A FETCH for this KEY is out at this node: it WAITS, behind others.";
    private static final String NUMBER = "its number at this node is 1 more than that of the one before "
        + "(1 at first; it goes on when the node FAILS)";
    private static final String BLOCKS = "all 16 if range is -N or none counts, or with if-range, else of A .. B "
        + "(to the end without B; each at most 255: a greater one counts as 255)";
    private static final String MISSING = "but if there is an ENTRY that SUITS it with which only BLOCKS are missing for 1: "
        + "from the first that is missing to the last that is (not of a REQUEST that has been LOOKED AT again behind a FILL: "
        + "that asks for all of its own, so that what it gets is enough).";
    private static final String LEAST = "Its least MARK is SEEN; it tells the VERSION that the node HAS (of an ENTRY that SUITS it "
        + "whose MARK is not below SEEN, with all BLOCKS asked for, as far as its length goes; else 0); "
        + "it is FORCED if the REQUEST is, or no-cache.";
    private static final String NO_NODE = "If the ring has no node: no FETCH, it FAILS at once (a MISS all the same).";
    private static final String WHICH = "by its VARY: the LANGUAGE (with 1; else 0) and 4 * the FORM (with 2; else 0).";

    public static void main(String[] args) throws IOException {
        Boundary b = new Boundary(5);
        clientsHaveLeastMark0(b.of("with a least MARK (0 for CLIENTS), perhaps FORCED"));
        markAtTheLeast(b.of(HAS));
        oneBlockMissing(b.of(HAS));
        noBlocksWanted(b.of(HAS));
        forcedOrNoCache(b.of(HAS));
        whichByVary(b.of(WHICH));
        maxAgeOfTheThing(b.of(HIT));
        maxAgeOfTheRequest(b.of(HIT));
        minFresh(b.of(HIT));
        thingWithNoCache(b.of(HIT));
        hitIsUsed(b.of(HIT));
        maxStaleWithNumber(b.of(MAX_STALE));
        maxStaleWithoutNumber(b.of(MAX_STALE));
        maxStaleWhateverElse(b.of(MAX_STALE));
        whileRevalidating(b.of(WHILE));
        notWithMaxAgeOrMinFresh(b.of(WHILE));
        staleIsNotUsed(b.of(WHILE));
        oneFetchForWhatIsStale(b.of(ONE_MADE));
        noFetchForWhatIsStale(b.of(ONE_MADE));
        onlyIfCached(b.of(CACHED));
        waitsBehindOthers(b.of(WAITS));
        numbersOfFetches(b.of(NUMBER));
        blocksAskedFor(b.of(BLOCKS));
        missingBlocks(b.of(MISSING));
        missingAndMore(b.of(MISSING));
        lookedAtAgain(b.of(MISSING));
        leastMark(b.of(LEAST));
        versionAtTheMark(b.of(LEAST));
        versionByBlocks(b.of(LEAST));
        forcedFetch(b.of(LEAST));
        noNodeToAsk(b.of(NO_NODE));
        noNodeButStale(b.of(NO_NODE));
        b.end();
    }

    /** Path 1 (EDGE 5, PARENT 1) with 20 bytes, stored so many ticks ago. */
    private static void stored(Check c, String control, int ticks) {
        c.fresh();
        c.put("PUT /1\nlength: 20\ncache-control: " + control + "\n\n");
        c.get("GET /1\n\n");
        for (int left = ticks; left > 0; left -= 100) {
            c.x.tick(Math.min(left, 100));
        }
    }

    /** How the request is answered at once: 1 a HIT, 2 STALE, 0 if it waits, else the status below 0. */
    private static int how(Check c, String asked) {
        int r = c.ask("GET /1\ncache-control: " + asked + "\n\n");
        int status = c.x.answer(r, 0);
        return status == 200 || status == 0 ? c.x.answer(r, 4) : -status;
    }

    private static int how(Check c, String control, int ticks, String asked) {
        stored(c, control, ticks);
        return how(c, asked);
    }

    /** A purge of another path has come: an older ENTRY is enough for a CLIENT, but not for a FETCH. */
    private static void clientsHaveLeastMark0(Check c) {
        stored(c, "max-age=5, stale-if-error=99", 0);
        c.x.purge(0, 9);
        c.x.settle();
        c.due("seen 1, mark 0", c.x.node(5, 8) * 10 + c.x.entry(5, 1, 0, 0, 3), 10);
        c.due("a hit", how(c, "x"), 1);
        c.x.tick(5);
        c.due("stale", how(c, "max-stale=1"), 2);
        c.x.settle();
        c.due("its fetch told least mark 1", c.x.entry(5, 1, 0, 0, 3), 1);
        c.x.purge(0, 9);
        c.x.settle();
        c.x.tick(5);
        c.x.fail(1);
        c.x.fail(2);
        c.due("seen 2, mark 1", c.x.node(5, 8) * 10 + c.x.entry(5, 1, 0, 0, 3), 21);
        c.due("stale on error", how(c, "x"), 2);
    }

    private static void markAtTheLeast(Check c) {
        c.put("PUT /1\nlength: 20\ncache-control: max-age=50\n\n");
        c.x.purge(0, 9);
        c.x.settle();
        c.get("GET /1\n\n");
        c.x.fail(5);
        c.x.back(5);
        c.ask("GET /1\n\n");
        c.due("least mark 1", c.x.message(0, 8), 1);
        c.x.deliver(0);
        c.due("mark 1 is not below 1: a hit at the parent", c.x.node(1, 4), 1);
        c.x.settle();
        c.x.fail(5);
        c.x.purge(0, 9);
        c.x.back(5);
        c.ask("GET /1\n\n");
        c.due("least mark 2", c.x.message(5, 8), 2);
        c.x.deliver(5);
        c.due("mark 1 is below 2: no hit", c.x.node(1, 4), 1);
        c.due("but a miss", c.x.node(1, 5), 2);
    }

    private static void oneBlockMissing(Check c) {
        c.put("PUT /1\nlength: 100\ncache-control: max-age=50\n\n");
        c.get("GET /1\nrange: bytes=16-47\n\n");
        String[] hits = {"16-47", "17-18", "47-47", "16-16"};
        for (String range : hits) {
            c.due(range, c.x.answer(c.ask("GET /1\nrange: bytes=" + range + "\n\n"), 4), 1);
        }
        c.due("15-47", c.x.answer(c.ask("GET /1\nrange: bytes=15-47\n\n"), 0), 0);
        c.due("16-48", c.x.answer(c.ask("GET /1\nrange: bytes=16-48\n\n"), 0), 0);
        c.due("head wants them as well", c.x.answer(c.ask("HEAD /1\n\n"), 0), 0);
        c.due("and with a tag that matches", c.x.answer(c.ask("GET /1\nif-none-match: *\n\n"), 0), 0);
    }

    private static void noBlocksWanted(Check c) {
        c.put("PUT /1\nlength: 16\ncache-control: max-age=50\n\n");
        c.get("GET /1\nrange: bytes=16-\n\n");
        c.due("an entry without blocks", c.x.entry(5, 1, 0, 0, 2), 0);
        int r = c.ask("GET /1\nrange: bytes=16-20\n\n");
        c.due("no byte: a hit", c.x.answer(r, 4), 1);
        c.due("416", c.x.answer(r, 0), 416);
        c.due("-0: a hit", c.x.answer(c.ask("GET /1\nrange: bytes=-0\n\n"), 4), 1);
        c.due("one byte: no hit", c.x.answer(c.ask("GET /1\nrange: bytes=15-20\n\n"), 0), 0);
        c.put("PUT /6\ncache-control: max-age=50\n\n");
        c.get("GET /6\n\n");
        c.due("length 0: a hit", c.x.answer(c.ask("GET /6\n\n"), 4), 1);
    }

    private static void forcedOrNoCache(Check c) {
        c.due("no-cache", how(c, "max-age=50", 0, "no-cache"), 0);
        c.due("forced", c.x.message(0, 9), 1);
        c.x.deliver(0);
        c.due("no hit at the parent", c.x.node(1, 4), 0);
        c.due("its fetch is forced", c.x.message(0, 9), 1);
        c.due("no-cache and max-stale", how(c, "max-age=5", 9, "no-cache, max-stale"), 0);
        c.due("no-cache and only-if-cached", how(c, "max-age=50", 0, "no-cache, only-if-cached"), -504);
    }

    private static String which(Check c, String vary, String lines) {
        c.fresh();
        c.put("PUT /1\nvary: " + vary + "\n\n");
        int r = c.get("GET /1\n" + lines + "\n");
        return Integer.toString(c.x.answer(r, 8));
    }

    private static void whichByVary(Check c) {
        String most = "accept-language: it\naccept-encoding: gzip\n";
        c.due("vary 0", which(c, "x", most), "0");
        c.due("vary 1", which(c, "accept-language", most), "3");
        c.due("vary 2", which(c, "accept-encoding", most), "4");
        c.due("vary 3", which(c, "accept-language, accept-encoding", most), "7");
        c.due("vary 3, nothing told", which(c, "accept-language, accept-encoding", ""), "0");
    }

    private static void maxAgeOfTheThing(Check c) {
        c.due("age 4 is below 5", how(c, "max-age=5", 4, "x"), 1);
        c.due("age 5 is not", how(c, "max-age=5", 5, "x"), 0);
        c.due("age 0 is below 1", how(c, "max-age=1", 0, "x"), 1);
        c.due("age 1 is not", how(c, "max-age=1", 1, "x"), 0);
        c.due("age 0 is not below 0", how(c, "max-age=0", 0, "x"), 0);
    }

    private static void maxAgeOfTheRequest(Check c) {
        c.due("age 3 is not above 3", how(c, "max-age=9", 3, "max-age=3"), 1);
        c.due("age 4 is", how(c, "max-age=9", 4, "max-age=3"), 0);
        c.due("age 0 is not above 0", how(c, "max-age=9", 0, "max-age=0"), 1);
        c.due("age 1 is", how(c, "max-age=9", 1, "max-age=0"), 0);
        c.due("a greater one does not lift the thing's", how(c, "max-age=9", 9, "max-age=99999"), 0);
    }

    private static void minFresh(Check c) {
        c.due("4 and 5 are below 10", how(c, "max-age=10", 4, "min-fresh=5"), 1);
        c.due("5 and 5 are not", how(c, "max-age=10", 5, "min-fresh=5"), 0);
        c.due("0 and 9", how(c, "max-age=10", 0, "min-fresh=9"), 1);
        c.due("0 and 10", how(c, "max-age=10", 0, "min-fresh=10"), 0);
        c.due("9 and 0", how(c, "max-age=10", 9, "min-fresh=0"), 1);
        c.due("the greatest", how(c, "max-age=99999", 0, "min-fresh=99999"), 0);
        c.due("not below the request's max-age, but the thing's", how(c, "max-age=10", 2, "max-age=3, min-fresh=7"), 1);
    }

    private static void thingWithNoCache(Check c) {
        c.due("age 0 is not below 0", how(c, "max-age=99999, no-cache", 0, "x"), 0);
        c.due("min-fresh=0", how(c, "no-cache, max-age=99999", 0, "min-fresh=0"), 0);
    }

    private static void hitIsUsed(Check c) {
        stored(c, "max-age=5", 4);
        c.due("new", c.entry(5, 1, 0, 0), "[1, 4, 2, 0, 0, 0, 0]");
        c.due("a hit", how(c, "x"), 1);
        c.due("kept", c.entry(5, 1, 0, 0), "[1, 4, 2, 0, 1, 0, 0]");
        c.due("one hit, one miss", c.node(5), "[1, 1, 48, 1, 1, 1, 0, 0, 0, 0, 0, 0, 0]");
        c.due("no message", c.x.total(0), 0);
    }

    private static void maxStaleWithNumber(Check c) {
        c.due("7 is below 5 and 3", how(c, "max-age=5", 7, "max-stale=3"), 2);
        c.due("8 is not", how(c, "max-age=5", 8, "max-stale=3"), 0);
        c.due("5 is not below 5 and 0", how(c, "max-age=5", 5, "max-stale=0"), 0);
        c.due("4 is fresh", how(c, "max-age=5", 4, "max-stale=0"), 1);
        c.due("the greatest", how(c, "max-age=5", 9000, "max-stale=99999"), 2);
        c.due("a thing with no-cache counts 0", how(c, "max-age=5, no-cache", 2, "max-stale=3"), 2);
        c.due("3 is not below 0 and 3", how(c, "max-age=5, no-cache", 3, "max-stale=3"), 0);
    }

    private static void maxStaleWithoutNumber(Check c) {
        c.due("age 5", how(c, "max-age=5", 5, "max-stale"), 2);
        c.due("age 10000", how(c, "max-age=0", 10000, "max-stale"), 2);
        c.due("age 0 of max-age 0", how(c, "max-age=0", 0, "max-stale"), 2);
    }

    private static void maxStaleWhateverElse(Check c) {
        c.due("max-age=0", how(c, "max-age=5", 1, "max-age=0, max-stale=0"), 2);
        c.due("min-fresh=5", how(c, "max-age=5", 0, "min-fresh=5, max-stale=0"), 2);
        c.due("both", how(c, "max-age=5", 8, "max-age=0, min-fresh=99999, max-stale=4"), 2);
        c.due("but 9 is not below 5 and 4", how(c, "max-age=5", 9, "max-age=0, min-fresh=99999, max-stale=4"), 0);
        c.due("only-if-cached", how(c, "max-age=5", 8, "only-if-cached, max-stale=4"), 2);
        c.due("what is fresh stays a hit", how(c, "max-age=5", 4, "max-stale"), 1);
    }

    private static void whileRevalidating(Check c) {
        c.due("7 is below 5 and 3", how(c, "max-age=5, stale-while-revalidate=3", 7, "x"), 2);
        c.due("8 is not", how(c, "max-age=5, stale-while-revalidate=3", 8, "x"), 0);
        c.due("5 is", how(c, "max-age=5, stale-while-revalidate=1", 5, "x"), 2);
        c.due("4 is fresh", how(c, "max-age=5, stale-while-revalidate=1", 4, "x"), 1);
        c.due("with no-cache 2 is below 0 and 3", how(c, "max-age=5, stale-while-revalidate=3, no-cache", 2, "x"), 2);
        c.due("with no-cache 3 is not", how(c, "max-age=5, stale-while-revalidate=3, no-cache", 3, "x"), 0);
    }

    private static void notWithMaxAgeOrMinFresh(Check c) {
        String told = "max-age=5, stale-while-revalidate=3";
        c.due("max-age", how(c, told, 6, "max-age=99999"), 0);
        c.due("min-fresh", how(c, told, 6, "min-fresh=0"), 0);
        c.due("max-age without a number does not count", how(c, told, 6, "max-age"), 2);
        c.due("max-stale=0 with neither", how(c, told, 7, "max-stale=0"), 2);
        c.due("max-stale=0 with max-age", how(c, told, 7, "max-stale=0, max-age=9"), 0);
        // a FETCH of an EDGE has neither, whatever the REQUEST told
        c.x.deliver(0);
        c.due("the parent gives it out", c.x.message(0, 0) * 1000 + c.x.message(0, 6), 1304);
    }

    private static void staleIsNotUsed(Check c) {
        stored(c, "max-age=5, stale-while-revalidate=3", 7);
        c.due("stale", how(c, "x"), 2);
        c.due("not kept", c.entry(5, 1, 0, 0), "[1, 7, 2, 0, 0, 0, 0]");
        c.due("no hit, no miss, nobody waits", c.node(5), "[1, 1, 48, 0, 0, 1, 1, 0, 0, 0, 0, 0, 0]");
    }

    private static void oneFetchForWhatIsStale(Check c) {
        stored(c, "max-age=5, stale-while-revalidate=3", 6);
        c.due("stale", how(c, "x"), 2);
        c.due("a fetch", c.message(0), "[0, 5, 1, 2, 1, 0, 0, 15, 0, 0, 1, 0]");
        c.due("stale again", how(c, "max-stale"), 2);
        c.due("no second fetch", c.x.total(0) * 10 + c.x.node(5, 6), 11);
        c.x.tick(1);
        c.due("by another range", c.x.answer(c.ask("GET /1\nrange: bytes=-1\n\n"), 4), 2);
        c.due("nor a third", c.x.total(0) * 10 + c.x.node(5, 6), 11);
        c.due("nobody waits", c.x.node(5, 7), 0);
    }

    private static void noFetchForWhatIsStale(Check c) {
        stored(c, "max-age=5, stale-while-revalidate=3", 6);
        c.x.fail(1);
        c.x.fail(2);
        c.due("stale", how(c, "x"), 2);
        c.due("no fetch", c.x.node(5, 6), 0);
        c.due("no message", c.x.total(0), 0);
        c.due("no miss", c.x.node(5, 5), 1);
        c.x.back(2);
        c.due("stale again", how(c, "x"), 2);
        c.due("the number was not used up", c.x.message(0, 3), 2);
    }

    private static void onlyIfCached(Check c) {
        c.due("nothing is there", how(c, "only-if-cached"), -504);
        c.due("nothing came of it", c.node(5), "[1, 0, 0, 0, 0, 0, 0, 0, 0, 0, 0, 0, 0]");
        c.due("no message", c.x.total(0), 0);
        c.ask("GET /1\n\n");
        c.due("it does not wait behind a fetch", how(c, "only-if-cached"), -504);
        c.due("one waits", c.x.node(5, 7), 1);
        c.due("a hit", how(c, "max-age=5", 4, "only-if-cached"), 1);
        c.due("no longer fresh", how(c, "max-age=5", 5, "only-if-cached"), -504);
    }

    private static void waitsBehindOthers(Check c) {
        c.put("PUT /1\nlength: 20\ncache-control: max-age=9\n\n");
        c.ask("GET /1\n\n");
        c.ask("GET /1\ncache-control: no-cache\n\n");
        c.ask("GET /1\naccept-language: it\nrange: bytes=3-4\n\n");
        c.due("one fetch, one miss, three wait", c.node(5), "[1, 0, 0, 0, 0, 1, 1, 3, 0, 0, 0, 0, 0]");
        c.ask("GET /1/3\n\n");
        c.due("another variant has its own", c.x.node(3, 6), 1);
        c.x.lose(1);
        for (int i = 0; i < 4; i++) {
            c.x.deliver(0);
        }
        c.due("the first", c.x.answer(0, 0) * 10 + c.x.answer(0, 4), 2000);
        c.due("the second asks again", c.x.answer(1, 0), 0);
        c.due("the third is a hit", c.x.answer(2, 4), 1);
    }

    private static void numbersOfFetches(Check c) {
        c.ask("GET /1\n\n");
        c.due("1 at first", c.x.message(0, 3), 1);
        c.ask("GET /6\n\n");
        c.due("then 2", c.x.message(1, 3), 2);
        c.ask("GET /2\n\n");
        c.due("1 at another node", c.x.message(2, 3), 1);
        c.x.fail(5);
        c.x.back(5);
        c.ask("GET /1\n\n");
        c.due("it goes on", c.x.message(3, 3), 3);
        c.x.deliver(3);
        c.due("1 at the parent", c.x.message(3, 3), 1);
        c.x.fail(1);
        c.x.back(1);
        c.x.deliver(0);
        c.due("2 at the parent", c.x.message(3, 3), 2);
    }

    private static void blocks(Check c, String lines, int first, int last) {
        c.fresh();
        c.ask("GET /1\n" + lines + "\n");
        c.due("first of " + lines, c.x.message(0, 6), first);
        c.due("last of " + lines, c.x.message(0, 7), last);
    }

    private static void blocksAskedFor(Check c) {
        blocks(c, "", 0, 15);
        blocks(c, "range: bytes=-1\n", 0, 15);
        blocks(c, "range: bytes=-0\n", 0, 15);
        blocks(c, "range: bytes=200-199\n", 0, 15);
        blocks(c, "range: bytes=20-30\nif-range: \"8\"\n", 0, 15);
        blocks(c, "if-range: \"8\"\n", 0, 15);
        blocks(c, "range: bytes=0-0\n", 0, 0);
        blocks(c, "range: bytes=0-15\n", 0, 0);
        blocks(c, "range: bytes=15-16\n", 0, 1);
        blocks(c, "range: bytes=16-31\n", 1, 1);
        blocks(c, "range: bytes=239-240\n", 14, 15);
        blocks(c, "range: bytes=255-255\n", 15, 15);
        blocks(c, "range: bytes=0-255\n", 0, 15);
        blocks(c, "range: bytes=0-256\n", 0, 15);
        blocks(c, "range: bytes=256-256\n", 15, 15);
        blocks(c, "range: bytes=256-99999\n", 15, 15);
        blocks(c, "range: bytes=99999-99999\n", 15, 15);
        blocks(c, "range: bytes=16-\n", 1, 15);
        blocks(c, "range: bytes=99999-\n", 15, 15);
    }

    private static void missing(Check c, String range, int first, int last) {
        c.ask("GET /1\nrange: bytes=" + range + "\n\n");
        c.due("first missing of " + range, c.x.message(0, 6), first);
        c.due("last missing of " + range, c.x.message(0, 7), last);
        c.x.lose(0);
        c.x.tick(10);
    }

    private static void missingBlocks(Check c) {
        String[] ranges = {"32-", "0-", "-255", "0-47", "48-", "-1", "0-99999"};
        int[] first = {4, 0, 0, 0, 4, 15, 0};
        int[] last = {15, 15, 15, 1, 15, 15, 15};
        for (int i = 0; i < ranges.length; i++) {
            c.fresh();
            c.put("PUT /1\nlength: 255\ncache-control: max-age=50\n\n");
            c.get("GET /1\nrange: bytes=32-63\n\n");
            missing(c, ranges[i], first[i], last[i]);
        }
        c.fresh();
        c.put("PUT /1\nlength: 100\ncache-control: max-age=50\n\n");
        c.get("GET /1\nrange: bytes=32-63\n\n");
        missing(c, "40-", 4, 6);
        missing(c, "-100", 0, 6);
        missing(c, "64-79", 4, 4);
    }

    /** If more than BLOCKS is missing for a HIT, it asks for all of its own. */
    private static void missingAndMore(Check c) {
        String[] asked = {"x", "x", "max-age=9", "max-age=8", "min-fresh=0", "min-fresh=1", "no-cache", "max-stale"};
        int[] ticks = {9, 10, 9, 9, 9, 9, 0, 10};
        int[] first = {3, 2, 3, 2, 3, 2, 2, 2};
        for (int i = 0; i < asked.length; i++) {
            c.fresh();
            c.put("PUT /1\nlength: 100\ncache-control: max-age=10\n\n");
            c.get("GET /1\nrange: bytes=32-47\n\n");
            if (ticks[i] > 0) {
                c.x.tick(ticks[i]);
            }
            c.ask("GET /1\nrange: bytes=32-70\ncache-control: " + asked[i] + "\n\n");
            c.due("first block with " + asked[i] + " at " + ticks[i], c.x.message(0, 6), first[i]);
            c.due("last block with " + asked[i], c.x.message(0, 7), 4);
        }
    }

    private static void lookedAtAgain(Check c) {
        c.put("PUT /1\nlength: 100\ncache-control: max-age=50\n\n");
        c.ask("GET /1\nrange: bytes=0-15\n\n");
        int r = c.ask("GET /1\nrange: bytes=0-40\n\n");
        for (int i = 0; i < 4; i++) {
            c.x.deliver(0);
        }
        c.due("the entry has the first block", c.blocks(5, 1, 0, 0), "1000000000000000");
        c.due("all of its own", c.message(0), "[0, 5, 1, 2, 1, 0, 0, 2, 0, 0, 0, 0]");
        c.due("a miss", c.x.node(5, 5), 2);
        c.x.settle();
        c.due("what it gets is enough", c.x.answer(r, 3), 41);
        c.ask("GET /1\nrange: bytes=0-60\n\n");
        c.due("one that comes anew asks for what is missing", c.message(0), "[0, 5, 1, 3, 1, 0, 3, 3, 0, 0, 0, 0]");
    }

    private static void leastMark(Check c) {
        c.ask("GET /1\n\n");
        c.due("seen 0", c.x.message(0, 8), 0);
        c.x.purge(0, 9);
        c.ask("GET /6\n\n");
        c.due("a purge that did not come yet", c.x.message(7, 8), 0);
        c.x.deliver(5);
        c.ask("GET /18\n\n");
        c.due("seen 1", c.x.message(8, 8), 1);
        c.x.deliver(8);
        c.due("the parent has its own", c.x.message(8, 8), 0);
    }

    private static void versionAtTheMark(Check c) {
        c.put("PUT /1\nlength: 20\n\n");
        c.x.purge(0, 9);
        c.x.settle();
        c.get("GET /1\n\n");
        c.ask("GET /1\n\n");
        c.due("mark 1 is not below 1", c.x.message(0, 10), 1);
        c.x.settle();
        c.x.purge(0, 9);
        c.x.settle();
        c.due("the entry stays", c.x.entry(5, 1, 0, 0, 3), 1);
        c.ask("GET /1\n\n");
        c.due("mark 1 is below 2", c.x.message(0, 10), 0);
    }

    private static void versionByBlocks(Check c) {
        c.put("PUT /1\nlength: 40\nvary: accept-language\n\n");
        c.ask("GET /1\nrange: bytes=0-31\n\n");
        c.due("nothing is there", c.x.message(0, 10), 0);
        c.x.settle();
        String[] ranges = {"0-31", "16-31", "0-32", "32-32", "48-", "255-"};
        int[] due = {1, 1, 0, 0, 1, 1};
        for (int i = 0; i < ranges.length; i++) {
            c.fresh();
            c.put("PUT /1\nlength: 40\nvary: accept-language\n\n");
            c.get("GET /1\nrange: bytes=0-31\n\n");
            c.ask("GET /1\nrange: bytes=" + ranges[i] + "\n\n");
            c.due("version had for " + ranges[i], c.x.message(0, 10), due[i]);
        }
        c.x.settle();
        c.ask("GET /1\naccept-language: de\nrange: bytes=0-31\n\n");
        c.due("of one that does not suit it", c.x.message(0, 10), 0);
        c.x.settle();
        c.get("GET /1\n\n");
        c.ask("GET /1\n\n");
        c.due("all blocks, as far as its length goes", c.x.message(0, 10), 1);
    }

    private static void forcedFetch(Check c) {
        c.ask("GET /1\n\n");
        c.due("not forced", c.x.message(0, 9), 0);
        c.ask("GET /2\ncache-control: no-cache\n\n");
        c.due("forced by no-cache", c.x.message(1, 9), 1);
        c.x.deliver(1);
        c.due("forced by a fetch", c.x.message(1, 9), 1);
        c.ask("GET /3\ncache-control: max-age=0\n\n");
        c.due("not by max-age", c.x.message(2, 9), 0);
    }

    private static void noNodeToAsk(Check c) {
        c.x.fail(1);
        c.x.fail(2);
        c.x.tick(3);
        int r = c.ask("GET /1\n\n");
        c.due("504 at once", c.answer(r), "[504, 0, 0, 0, 0, 21, 3, 5, 0]");
        c.due("a miss, no fetch, nobody waits", c.node(5), "[1, 0, 0, 0, 0, 1, 0, 0, 0, 0, 0, 0, 0]");
        c.due("no message", c.x.total(0), 0);
        c.x.back(1);
        c.ask("GET /1\n\n");
        c.due("the first fetch", c.x.message(0, 3), 1);
    }

    private static void noNodeButStale(Check c) {
        c.put("PUT /1\nlength: 20\ncache-control: max-age=5, stale-if-error=3\n\n");
        c.get("GET /1\n\n");
        c.x.fail(1);
        c.x.fail(2);
        c.x.tick(7);
        c.due("7 is below 5 and 3", how(c, "x"), 2);
        c.due("a miss all the same", c.x.node(5, 5), 2);
        c.due("for no-cache, too", how(c, "no-cache"), 2);
        c.x.tick(1);
        c.due("8 is not", how(c, "x"), -504);
        c.due("a miss", c.x.node(5, 5), 4);
    }
}
