import java.io.IOException;

/** Promise 3, update: the sentences that name a boundary case. */
public final class B03UpdateTest {
    private static final String UPDATE = "The tape (which is empty then in any case) is a THING: its VERSION, "
        + "1 more than any its PATH had.";
    private static final String NONE = "IllegalArgumentException: it is none.";
    private static final String LENGTH = "length: NUMBER (0 .. 255; 0 without).";
    private static final String CONTROL = "max-age=N, stale-if-error=N, stale-while-revalidate=N (0 if not there), "
        + "no-store, no-cache count, likewise.";
    private static final String KEYS = "keys: 1 to 8 letters a .. h, parted by one blank each (one may be there twice).";
    private static final String VARY = "accept-language (1) and accept-encoding (2) count, without a NUMBER, "
        + "other words do not: VARY is the sum of those that are there.";
    private static final String PATHS = "PATH 0 .. 31, VARIANT 0 .. 3, 0 if it is not there";

    public static void main(String[] args) throws IOException {
        Boundary b = new Boundary(3);
        versions(b.of(UPDATE));
        versionBehindADrop(b.of(UPDATE));
        emptyBehindAGoodOne(b.of(UPDATE));
        emptyBehindAWrongOne(b.of(UPDATE));
        emptyTapeIsNone(b.of(NONE));
        requestIsNone(b.of(NONE));
        wrongOneChangesNothing(b.of(NONE));
        paths(b.of(PATHS));
        variants(b.of("A TARGET with VARIANT is none."));
        lengths(b.of(LENGTH));
        withoutLength(b.of(LENGTH));
        withoutMaxAge(b.of(CONTROL));
        withoutStaleIfError(b.of(CONTROL));
        withoutStaleWhileRevalidate(b.of(CONTROL));
        lastOfAKind(b.of(CONTROL));
        otherwiseThanTold(b.of(CONTROL));
        greatestNumbers(b.of(CONTROL));
        howManyKeys(b.of(KEYS));
        firstAndLastKey(b.of(KEYS));
        keyTwice(b.of(KEYS));
        blanksBetweenKeys(b.of(KEYS));
        varySums(b.of(VARY));
        otherNames(b.of("Others as above."));
        b.end();
    }

    private static void versions(Check c) {
        c.due("first", c.put("PUT /0\n\n"), 1);
        c.due("second", c.put("PUT /0\n\n"), 2);
        c.due("first of another path", c.put("PUT /31\n\n"), 1);
        c.due("third", c.put("PUT /00\n\n"), 3);
    }

    private static void versionBehindADrop(Check c) {
        c.put("PUT /4\n\n");
        c.put("PUT /4\n\n");
        c.x.drop(4);
        c.due("one more than it had", c.put("PUT /4\n\n"), 3);
        c.x.drop(4);
        c.due("and again", c.put("PUT /4\n\n"), 4);
    }

    private static void emptyBehindAGoodOne(Check c) {
        c.due("a thing", c.put("PUT /4\n\n"), 1);
        c.due("nothing is left of it", c.update(), -2);
        c.due("it ends at 0", c.x.fault(), 0);
    }

    private static void emptyBehindAWrongOne(Check c) {
        c.due("none", c.put("PUT /4\nx"), -2);
        c.due("nothing is left of it", c.put("PUT /4\n\n"), 1);
    }

    private static void emptyTapeIsNone(Check c) {
        c.due("empty", c.update(), -2);
        c.due("fault", c.x.fault(), 0);
    }

    private static void requestIsNone(Check c) {
        c.due("get", c.put("GET /1\n\n"), -2);
        c.due("fault of get", c.x.fault(), 0);
        c.due("head", c.put("HEAD /1\n\n"), -2);
        c.due("no request came", c.x.total(2), 0);
    }

    private static void wrongOneChangesNothing(Check c) {
        c.put("PUT /1\nlength: 5\n\n");
        c.due("none", c.put("PUT /1\nlength: 7\nlength: 7\n\n"), -2);
        int r = c.get("GET /1\n\n");
        c.due("the old length", c.x.answer(r, 3), 5);
        c.due("the old version", c.x.answer(r, 1), 1);
        c.due("the next version", c.put("PUT /1\n\n"), 2);
    }

    private static void paths(Check c) {
        c.due("path 0", c.put("PUT /0\n\n"), 1);
        c.due("path 31", c.put("PUT /31\n\n"), 1);
        c.due("path 32", c.put("PUT /32\n\n"), -2);
        c.due("fault of 32", c.x.fault(), 5);
        c.due("path 99999", c.put("PUT /99999\n\n"), -2);
        c.due("no path", c.put("PUT /\n\n"), -2);
        c.due("fault without a path", c.x.fault(), 5);
        c.due("drop 0", c.x.drop(0), true);
        c.due("drop 31", c.x.drop(31), true);
    }

    private static void variants(Check c) {
        for (int variant = 0; variant <= 4; variant++) {
            c.due("variant " + variant, c.put("PUT /1/" + variant + "\n\n"), -2);
            c.due("fault", c.x.fault(), 6);
        }
        c.due("none came", c.x.drop(1), false);
        c.put("PUT /1\nlength: 3\n\n");
        c.due("what is put is for all variants", c.x.answer(c.get("GET /1/3\n\n"), 3), 3);
    }

    private static void length(Check c, String told, int due) {
        c.fresh();
        c.due("length " + told, c.put("PUT /1\nlength: " + told + "\n\n"), due < 0 ? -2 : 1);
        if (due < 0) {
            c.due("fault of " + told, c.x.fault(), 15);
        } else {
            c.due("bytes of " + told, c.x.answer(c.get("GET /1\n\n"), 3), due);
        }
    }

    private static void lengths(Check c) {
        length(c, "0", 0);
        length(c, "1", 1);
        length(c, "254", 254);
        length(c, "255", 255);
        length(c, "256", -1);
        length(c, "00255", 255);
        length(c, "00256", -1);
        length(c, "99999", -1);
    }

    private static void withoutLength(Check c) {
        c.put("PUT /1\n\n");
        int r = c.get("GET /1\n\n");
        c.due("status", c.x.answer(r, 0), 200);
        c.due("bytes", c.x.answer(r, 3), 0);
        c.due("blocks", c.x.entry(5, 1, 0, 0, 2), 0);
    }

    /** How a second request is answered so many ticks behind the first one; 0 if it waits. */
    private static int howAfter(Check c, String control, int ticks) {
        c.fresh();
        c.put("PUT /1\nlength: 20\ncache-control: " + control + "\n\n");
        c.get("GET /1\n\n");
        for (int left = ticks; left > 0; left -= 100) {
            c.x.tick(Math.min(left, 100));
        }
        return c.x.answer(c.ask("GET /1\n\n"), 4);
    }

    private static void withoutMaxAge(Check c) {
        c.due("age 0 is not below 0", howAfter(c, "foo", 0), 0);
        c.due("with stale-while-revalidate alone", howAfter(c, "stale-while-revalidate=2", 1), 2);
        c.due("that is all there is", howAfter(c, "stale-while-revalidate=2", 2), 0);
        c.due("max-age=1", howAfter(c, "max-age=1", 0), 1);
    }

    /** The status of a request whose fetch fails when the entry has the age 10 and ticks. */
    private static int statusOnError(Check c, String control, int ticks) {
        howAfter(c, control, ticks);
        c.x.lose(0);
        c.x.tick(10);
        return c.x.answer(1, 0);
    }

    private static void withoutStaleIfError(Check c) {
        c.due("max-age 2 alone", statusOnError(c, "max-age=2", 2), 504);
        c.due("12 is not below 2 and 10", statusOnError(c, "max-age=2, stale-if-error=10", 2), 504);
        c.due("12 is below 2 and 11", statusOnError(c, "max-age=2, stale-if-error=11", 2), 200);
    }

    private static void withoutStaleWhileRevalidate(Check c) {
        c.due("the last tick of max-age", howAfter(c, "max-age=5", 4), 1);
        c.due("age 5 is not below 5 and 0", howAfter(c, "max-age=5", 5), 0);
        c.due("stale-if-error is not it", howAfter(c, "max-age=5, stale-if-error=9", 5), 0);
    }

    private static void lastOfAKind(Check c) {
        c.due("max-age 5", howAfter(c, "max-age=9, max-age=5", 5), 0);
        c.due("max-age 9", howAfter(c, "max-age=5, max-age=9", 8), 1);
        c.due("max-age 0", howAfter(c, "max-age=5, max-age=0", 0), 0);
        c.due("stale-while-revalidate 1", howAfter(c, "stale-while-revalidate=9, stale-while-revalidate=1", 1), 0);
        c.due("stale-while-revalidate 9", howAfter(c, "stale-while-revalidate=1, stale-while-revalidate=9", 8), 2);
        c.due("stale-if-error 2", statusOnError(c, "stale-if-error=90, stale-if-error=2", 1), 504);
        c.due("stale-if-error 90", statusOnError(c, "stale-if-error=2, stale-if-error=90", 1), 200);
    }

    private static void otherwiseThanTold(Check c) {
        c.due("max-age without a number", howAfter(c, "max-age=5, max-age", 4), 1);
        c.due("stale-while-revalidate without one", howAfter(c, "stale-while-revalidate", 0), 0);
        c.due("stale-if-error without one", statusOnError(c, "max-age=1, stale-if-error", 1), 504);
        c.due("no-cache with a number", howAfter(c, "max-age=5, no-cache=0", 4), 1);
        c.due("no-cache", howAfter(c, "max-age=5, no-cache", 0), 0);
        c.due("no-store with a number", howAfter(c, "max-age=5, no-store=1", 4), 1);
        c.due("no-store", howAfter(c, "max-age=5, no-store", 0), 0);
        c.due("other words with a number", howAfter(c, "max-ag=9, max-ages=9, foo=9, min-fresh=9, max-stale=9", 0), 0);
        c.due("other words without", howAfter(c, "max-age=5, no-cach, no-stores, xo-cache, only-if-cached", 4), 1);
    }

    private static void greatestNumbers(Check c) {
        c.due("max-age", howAfter(c, "max-age=99999", 5000), 1);
        c.due("all of them together", howAfter(c, "max-age=99999, stale-if-error=99999, stale-while-revalidate=99999", 9), 1);
        c.due("stale-while-revalidate", howAfter(c, "stale-while-revalidate=99999", 5000), 2);
        c.due("stale-if-error", statusOnError(c, "stale-if-error=99999", 5000), 200);
    }

    private static void keys(Check c, String told, int fault) {
        c.due("keys <" + told + ">", c.put("PUT /1\nkeys: " + told + "\n\n") == -2, fault >= 0);
        c.due("fault of <" + told + ">", c.x.fault(), fault);
    }

    private static void howManyKeys(Check c) {
        keys(c, "", 13);
        keys(c, "a", -1);
        keys(c, "a b c d e f g", -1);
        keys(c, "a b c d e f g h", -1);
        keys(c, "a b c d e f g h a", 28);
        keys(c, "a b c d e f g h ", 28);
    }

    /** Whether an entry with these keys goes by a purge of a key. */
    private static boolean goes(Check c, String told, int key) {
        c.fresh();
        c.put("PUT /1\nkeys: " + told + "\n\n");
        c.get("GET /1\n\n");
        c.x.purge(1, key);
        c.x.settle();
        return c.x.node(5, 1) == 0;
    }

    private static void firstAndLastKey(Check c) {
        c.due("a goes by 0", goes(c, "a", 0), true);
        c.due("a stays by 1", goes(c, "a", 1), false);
        c.due("h goes by 7", goes(c, "h", 7), true);
        c.due("h stays by 6", goes(c, "h", 6), false);
        c.due("h stays by 0", goes(c, "h", 0), false);
        c.due("the last of eight", goes(c, "a b c d e f g h", 7), true);
        keys(c, "i", 13);
        keys(c, "`", 13);
        keys(c, "A", 13);
        keys(c, "h i", 15);
    }

    private static void keyTwice(Check c) {
        keys(c, "a a", -1);
        keys(c, "h h h h h h h h", -1);
        c.due("c goes", goes(c, "c c", 2), true);
        c.due("d stays", goes(c, "c c", 3), false);
        c.due("b stays", goes(c, "c c", 1), false);
    }

    private static void blanksBetweenKeys(Check c) {
        keys(c, "ab", 14);
        keys(c, "a  b", 15);
        keys(c, "a ", 15);
        keys(c, " a", 13);
        keys(c, "a, b", 14);
    }

    private static int vary(Check c, String lines) {
        c.fresh();
        c.put("PUT /1\n" + lines + "\n");
        c.get("GET /1\n\n");
        return c.x.entry(5, 1, 0, 0, 6);
    }

    private static void varySums(Check c) {
        c.due("without", vary(c, ""), 0);
        c.due("others alone", vary(c, "vary: accept, language\n"), 0);
        c.due("1", vary(c, "vary: accept-language\n"), 1);
        c.due("2", vary(c, "vary: accept-encoding\n"), 2);
        c.due("3", vary(c, "vary: accept-language, accept-encoding\n"), 3);
        c.due("3 the other way", vary(c, "vary: accept-encoding, foo, accept-language\n"), 3);
        c.due("1 twice", vary(c, "vary: accept-language, accept-language\n"), 1);
        c.due("2 twice", vary(c, "vary: accept-encoding, accept-encoding\n"), 2);
        c.due("1 with a number", vary(c, "vary: accept-language=1\n"), 0);
        c.due("2 with a number", vary(c, "vary: accept-encoding=0, accept-language\n"), 1);
    }

    private static void otherNames(Check c) {
        c.due("no value", c.put("PUT /1\nx:\ny: \n\n"), 1);
        c.due("any value", c.put("PUT /1\nx: ~!\"#=,:;  /32\n\n"), 2);
        c.due("names of requests", c.put("PUT /1\nrange: x\nif-range:\nif-none-match: 5\naccept-language: \n\n"), 3);
        c.due("names beside those that count", c.put("PUT /1\nlengt: 256\nlengths: 256\nkey: z\nvar:\n\n"), 4);
        c.due("they do not count", c.x.answer(c.get("GET /1\n\n"), 3), 0);
        c.due("but for the first letter", c.put("PUT /1\nxength: 256\nxeys: z\nxary: ,\nxache-control: ,\n\n"), 5);
        c.due("but for the last letter", c.put("PUT /1\nlengtx: 256\nkeyx: z\nvarx: ,\ncache-controx: ,\n\n"), 6);
    }
}
