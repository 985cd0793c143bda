import java.io.IOException;

/** Promise 7, deliver: the sentences that name a boundary case of messages, FETCHES and FILLS that come. */
public final class B07DeliverTest {
    private static final String DELIVER = "The k-th message that waits is delivered: true; false if there is none such.";
    private static final String DOWN = "One that is delivered to a node that is DOWN is gone.";
    private static final String LATER = "THE FETCH is out for at most 10 ticks: then it FAILS, and is out no more "
        + "(what comes for it later is passed over).";
    private static final String COMES = "A FILL comes for it (its number is that of the FETCH that is out): it is out no more.";
    private static final String NOT_FOUND = "404: all ENTRIES of the KEY go, and all that WAIT are ANSWERED 404.";
    private static final String BY_PURGE = "if a PURGE that came to this node (since it was UP last) has a number above the FILL's MARK, "
        + "and is of its PATH or of one of its keys";
    private static final String BY_MARK = "or the FILL's MARK is below the least MARK of the FETCH";
    private static final String BY_304 = "or it is 304 and there is no ENTRY of its VERSION and WHICH "
        + "(that wanted by its VARY with the FETCH's LANGUAGE and FORM): it is REFUSED";
    private static final String AGAIN = "the node makes the same FETCH again, with the next number, SEEN and what it HAS "
        + "as they are now, 10 ticks from now on (if there is a node to ask, else it FAILS; no MISS).";
    private static final String AGE = "AGE is the FILL's and the ticks since that was sent; "
        + "all ENTRIES of the KEY with another VARY go";
    private static final String BLOCKS = "its BLOCKS come to those of an ENTRY of the same VERSION and WHICH, else there are just these";
    private static final String NO_STORE = "it comes to the STORE, in place of the ENTRY of this KEY and WHICH, "
        + "but not with no-store (then that one goes).";
    private static final String FIRST = "but the first of them, if what came SUITS it, the BLOCKS (of the FILL and of the ENTRY "
        + "of this VERSION) are enough for it, and the MARK is not below its least one, is ANSWERED from these, whatever its age, "
        + "FORCED and no-cache or not (that is no HIT, nothing is USED).";
    private static final String GIVEN = "those BLOCKS of first .. last that are there; a FILL 304, alike but without BLOCKS, "
        + "if the FETCH HAS this VERSION.";
    private static final String ORIGIN = "404 if VERSION is 0; else 200 with MARK the ORDER, age 0, BLOCKS first .. last, "
        + "as far as the length goes. A FETCH that HAS its VERSION gets a FILL 304, alike but without BLOCKS.";

    public static void main(String[] args) throws IOException {
        Boundary b = new Boundary(7);
        noneSuch(b.of(DELIVER));
        firstAndLast(b.of(DELIVER));
        toANodeThatIsDown(b.of(DOWN));
        toTheOriginAlways(b.of(DOWN));
        laterIsPassedOver(b.of(LATER));
        atTheTenthTick(b.of(LATER));
        comesTwice(b.of(COMES));
        allOfTheKeyGo(b.of(NOT_FOUND));
        purgeAboveTheMark(b.of(BY_PURGE));
        purgeAtTheMark(b.of(BY_PURGE));
        purgeOfAnother(b.of(BY_PURGE));
        purgeByKey(b.of(BY_PURGE));
        oneOfSeveralPurges(b.of(BY_PURGE));
        purgeThatDidNotCome(b.of(BY_PURGE));
        the1stOf60Purges(b.of("A node knows all that came there (since it was UP last)."));
        markAtTheLeast(b.of(BY_MARK));
        entryOf304Went(b.of(BY_304));
        entryOf304IsThere(b.of(BY_304));
        sameFetchAgain(b.of(AGAIN));
        tenTicksFromNow(b.of(AGAIN));
        noNodeToAskAgain(b.of(AGAIN));
        ageOfAFill(b.of(AGE));
        entriesOfAnotherVary(b.of(AGE));
        blocksOfTheSameVersion(b.of(BLOCKS));
        blocksOfAnotherVersion(b.of(BLOCKS));
        noStore(b.of(NO_STORE));
        lookedAtInTurn(b.of("Behind that all that WAITED are LOOKED AT again, in turn (a HIT, a MISS then counts as any)"));
        whateverItsAge(b.of(FIRST));
        forcedOrNot(b.of(FIRST));
        doesNotSuitTheFirst(b.of(FIRST));
        notEnoughForTheFirst(b.of(FIRST));
        markBelowItsLeast(b.of(FIRST));
        noneWaits(b.of(FIRST));
        blocksThatAreThere(b.of(GIVEN));
        versionThatIsHad(b.of(GIVEN));
        lengthsAtTheOrigin(b.of(ORIGIN));
        markOfTheOrigin(b.of(ORIGIN));
        hadAtTheOrigin(b.of(ORIGIN));
        b.end();
    }

    private static void put(Check c, String lines) {
        c.put("PUT /1\n" + lines + "\n");
    }

    /** Delivers the first message so many times: the steps of one request. */
    private static void steps(Check c, int count) {
        for (int i = 0; i < count; i++) {
            c.x.deliver(0);
        }
    }

    private static void noneSuch(Check c) {
        int[] none = {0, 1, -1, Integer.MIN_VALUE, Integer.MAX_VALUE};
        for (int k : none) {
            c.due("none waits: " + k, c.x.deliver(k), false);
        }
        c.ask("GET /1\n\n");
        String before = c.state();
        for (int k : none) {
            if (k != 0) {
                c.due("one waits: " + k, c.x.deliver(k), false);
            }
        }
        c.due("nothing changed", c.state(), before);
        c.due("deliver 0", c.x.deliver(0), true);
    }

    private static void firstAndLast(Check c) {
        for (int i = 0; i < 17; i++) {
            c.x.purge(0, 0);
        }
        c.due("100 wait", c.x.total(0), 100);
        c.due("deliver 100", c.x.deliver(100), false);
        c.due("deliver 99", c.x.deliver(99), true);
        c.due("the last one came to node 4", c.x.node(4, 8), 17);
        c.due("its ack is the last one", c.latest(), "[3, 4, 0, 17, 0, 0, 0, 0, 0, 0, 0, 0]");
        c.due("deliver 0", c.x.deliver(0), true);
        c.due("the first one came to node 1", c.x.node(1, 8), 1);
    }

    private static void toANodeThatIsDown(Check c) {
        put(c, "");
        int r = c.ask("GET /1\n\n");
        c.x.fail(1);
        c.due("deliver", c.x.deliver(0), true);
        c.due("it is gone", c.x.total(0), 0);
        c.due("it is not lost", c.x.total(4), 0);
        c.x.back(1);
        c.due("it does not come back", c.x.node(1, 7), 0);
        c.due("the request waits on", c.x.answer(r, 0), 0);
        c.x.purge(0, 1);
        c.x.fail(6);
        c.x.deliver(5);
        c.due("a purge neither", c.x.total(0), 5);
        c.x.back(6);
        c.due("seen is the order", c.x.node(6, 8), 1);
    }

    private static void toTheOriginAlways(Check c) {
        put(c, "");
        c.ask("GET /1\n\n");
        c.x.deliver(0);
        for (int n = 1; n <= 6; n++) {
            c.x.fail(n);
        }
        c.x.deliver(0);
        c.due("the origin answers", c.message(0), "[1, 0, 1, 1, 1, 0, 200, 1, 0, 0, 0, 0]");
        c.x.deliver(0);
        c.due("to a node that is down", c.x.total(0), 0);
    }

    private static void laterIsPassedOver(Check c) {
        put(c, "length: 20\ncache-control: max-age=50\n");
        c.ask("GET /1\n\n");
        steps(c, 3);
        c.x.tick(10);
        c.due("504", c.x.answer(0, 0), 504);
        c.x.deliver(0);
        c.due("nothing is stored", c.x.node(5, 1), 0);
        c.due("504 stays", c.answer(0), "[504, 0, 0, 0, 0, 21, 10, 5, 0]");
        c.due("answered once", c.x.total(3), 1);
        c.due("the strike stays", c.x.node(5, 9), 1);
        // a later 404 for an old number takes no entry
        c.get("GET /1\n\n");
        c.due("stored", c.x.node(5, 1), 1);
        c.x.drop(1);
        c.ask("GET /1\ncache-control: no-cache\n\n");
        steps(c, 3);
        c.due("404 is under way", c.x.message(0, 6), 404);
        c.x.tick(10);
        c.x.deliver(0);
        c.due("the entry stays", c.x.node(5, 1), 1);
    }

    private static void atTheTenthTick(Check c) {
        put(c, "length: 20\ncache-control: max-age=50\n");
        c.ask("GET /1\n\n");
        steps(c, 3);
        c.x.tick(9);
        c.due("it is out", c.x.node(5, 6), 1);
        c.x.deliver(0);
        c.due("nine ticks: it comes in time", c.x.answer(0, 0), 200);
        c.due("its age", c.x.answer(0, 2), 9);
        c.ask("GET /6\n\n");
        steps(c, 3);
        c.x.tick(10);
        c.due("it is out no more", c.x.node(5, 6), 0);
        c.x.deliver(0);
        c.due("ten ticks: too late", c.x.answer(1, 0), 504);
    }

    private static void comesTwice(Check c) {
        put(c, "length: 20\n");
        c.ask("GET /1\n\n");
        c.ask("GET /6\n\n");
        c.due("two are out", c.x.node(5, 6), 2);
        c.x.deliver(0);
        c.x.deliver(1);
        c.x.deliver(1);
        c.x.deliver(1);
        c.due("the one with its number", c.x.node(5, 6), 1);
        c.due("answered", c.x.answer(0, 0), 200);
        c.due("the other waits", c.x.answer(1, 0), 0);
        // a fetch of before a fall, answered behind it: its number is no longer out
        c.x.fail(5);
        c.x.back(5);
        c.ask("GET /6\n\n");
        c.x.settle();
        c.due("404 by its own fetch", c.x.answer(2, 0), 404);
        c.due("misses of the parent: one for both", c.x.node(1, 5), 2);
        c.due("none is out", c.x.node(5, 6), 0);
    }

    private static void allOfTheKeyGo(Check c) {
        put(c, "vary: accept-language, accept-encoding\ncache-control: max-age=50\n");
        c.put("PUT /6\ncache-control: max-age=50\n\n");
        c.get("GET /1\n\n");
        c.get("GET /1\naccept-language: it\naccept-encoding: gzip\n\n");
        c.get("GET /1\naccept-language: it\naccept-encoding: gzip\n\n");
        c.get("GET /6\n\n");
        c.get("GET /1/1\n\n");
        c.due("one is kept", c.x.node(5, 3), 1);
        c.x.drop(1);
        c.ask("GET /1\naccept-language: de\n\n");
        c.ask("HEAD /1\naccept-language: fr\n\n");
        c.x.settle();
        c.due("the first", c.x.answer(5, 0), 404);
        c.due("the second", c.x.answer(6, 0), 404);
        c.due("which 0 went", c.x.entry(5, 1, 0, 0, 0), -1);
        c.due("which 7 went", c.x.entry(5, 1, 0, 7, 0), -1);
        c.due("another path stays", c.x.entry(5, 6, 0, 0, 0), 1);
        c.due("another variant stays", c.x.entry(4, 1, 1, 0, 0), 1);
        c.due("another variant at the same parent, too", c.x.entry(1, 1, 1, 0, 0), 1);
    }

    /** A FILL with this MARK waits for PARENT 1 as message 0. */
    private static void fillForTheParent(Check c, String lines) {
        put(c, lines + "cache-control: max-age=50\n");
        c.ask("GET /1\n\n");
        steps(c, 2);
        c.due("a fill of the origin", c.x.message(0, 0) + c.x.message(0, 1), 1);
    }

    private static boolean refused(Check c) {
        c.x.deliver(0);
        c.due("taken in or refused", c.x.node(1, 1) + c.x.node(1, 6), 1);
        return c.x.node(1, 6) == 1;
    }

    private static void purgeAboveTheMark(Check c) {
        fillForTheParent(c, "");
        c.due("mark 0", c.x.message(0, 8), 0);
        c.x.purge(0, 1);
        c.x.deliver(1);
        c.due("purge 1 is above 0", refused(c), true);
        c.fresh();
        for (int i = 0; i < 59; i++) {
            c.x.purge(0, 9);
            c.x.settle();
        }
        fillForTheParent(c, "");
        c.due("mark 59", c.x.message(0, 8), 59);
        c.x.purge(0, 1);
        c.x.deliver(1);
        c.due("purge 60 is above 59", refused(c), true);
    }

    private static void purgeAtTheMark(Check c) {
        c.x.purge(0, 1);
        c.x.settle();
        fillForTheParent(c, "");
        c.due("mark 1", c.x.message(0, 8), 1);
        c.due("purge 1 is not above 1", refused(c), false);
        c.fresh();
        c.x.purge(0, 1);
        fillForTheParentBehind(c);
        c.due("a purge of before that comes late", refusedBehind(c), false);
    }

    /** Purge 1 waits for the six nodes; the origin's fill (with MARK 1) comes behind them. */
    private static void fillForTheParentBehind(Check c) {
        put(c, "cache-control: max-age=50\n");
        c.ask("GET /1\n\n");
        c.x.deliver(6);
        c.x.deliver(6);
        c.due("mark 1", c.x.message(6, 8), 1);
        c.x.deliver(0);
        c.due("seen 1", c.x.node(1, 8), 1);
    }

    private static boolean refusedBehind(Check c) {
        c.x.deliver(5);
        return c.x.node(1, 6) == 1;
    }

    private static void purgeOfAnother(Check c) {
        fillForTheParent(c, "keys: a c\n");
        c.x.purge(0, 0);
        c.x.purge(0, 2);
        c.x.purge(1, 1);
        c.x.purge(1, 3);
        for (int i = 0; i < 4; i++) {
            c.x.deliver(1 + 5 * i);
        }
        c.due("all came", c.x.node(1, 8), 4);
        c.due("none is of it", refused(c), false);
    }

    private static void purgeByKey(Check c) {
        String[] keys = {"a", "h", "a b c d e f g h", "a b c d e f g h", "b d"};
        int[] which = {0, 7, 0, 7, 2};
        boolean[] due = {true, true, true, true, false};
        for (int i = 0; i < keys.length; i++) {
            c.fresh();
            fillForTheParent(c, "keys: " + keys[i] + "\n");
            c.x.purge(1, which[i]);
            c.x.deliver(1);
            c.due(keys[i] + " by " + which[i], refused(c), due[i]);
        }
        c.fresh();
        fillForTheParent(c, "");
        c.x.purge(1, 1);
        c.x.deliver(1);
        c.due("key 1 is not path 1", refused(c), false);
    }

    private static void oneOfSeveralPurges(Check c) {
        for (int of = 0; of < 3; of++) {
            c.fresh();
            fillForTheParent(c, "");
            for (int i = 0; i < 3; i++) {
                c.x.purge(0, i == of ? 1 : 9);
            }
            for (int i = 0; i < 3; i++) {
                c.x.deliver(1 + 5 * i);
            }
            c.due("purge " + (of + 1) + " of 3", refused(c), true);
        }
    }

    private static void purgeThatDidNotCome(Check c) {
        fillForTheParent(c, "");
        c.x.purge(0, 1);
        c.due("it waits yet", refused(c), false);
        c.fresh();
        fillForTheParent(c, "");
        c.x.purge(0, 1);
        c.x.purge(0, 9);
        c.x.deliver(7);
        c.due("the second one came, the first did not", c.x.node(1, 8), 2);
        c.due("taken in", refused(c), false);
        c.x.deliver(0);
        c.due("until it comes", c.x.node(1, 1), 0);
    }

    private static void the1stOf60Purges(Check c) {
        for (int of = 1; of <= 3; of++) {
            c.fresh();
            fillForTheParent(c, "");
            for (int n = 2; n <= 6; n++) {
                c.x.fail(n);
            }
            for (int i = 1; i <= 60; i++) {
                c.x.purge(0, of == 1 && i == 1 || of == 2 && i == 60 ? 1 : 9);
                c.x.deliver(1);
                c.x.lose(1);
            }
            c.due("all came", c.x.node(1, 8), 60);
            c.x.deliver(0);
            c.due("the first, the last, none of 60", c.x.node(1, 6), of < 3 ? 1 : 0);
        }
    }

    private static void markAtTheLeast(Check c) {
        c.x.purge(0, 9);
        c.x.settle();
        put(c, "cache-control: max-age=50\n");
        c.ask("GET /1\n\n");
        c.due("least mark 1", c.x.message(0, 8), 1);
        steps(c, 3);
        c.due("mark 1", c.x.message(0, 8), 1);
        c.x.deliver(0);
        c.due("1 is not below 1: taken in", c.x.node(5, 1), 1);
        c.due("answered", c.x.answer(0, 0), 200);
    }

    /** A 304 waits for EDGE 5 as message 0. */
    private static void notModifiedForTheEdge(Check c) {
        put(c, "length: 20\ncache-control: max-age=5\n");
        c.get("GET /1\n\n");
        c.x.tick(5);
        c.ask("GET /1\n\n");
        steps(c, 3);
        c.due("304", c.message(0), "[1, 1, 5, 2, 1, 0, 304, 1, 0, 0, 0, 0]");
    }

    private static void entryOf304Went(Check c) {
        notModifiedForTheEdge(c);
        c.x.budget(5, 47);
        c.due("the entry went", c.x.node(5, 1), 0);
        c.x.deliver(0);
        c.due("refused: it has nothing now", c.message(0), "[0, 5, 1, 3, 1, 0, 0, 15, 0, 0, 0, 0]");
        c.x.settle();
        c.due("answered by the next one", c.x.answer(1, 0), 200);
        c.due("two misses", c.x.node(5, 5), 2);
    }

    private static void entryOf304IsThere(Check c) {
        notModifiedForTheEdge(c);
        c.x.budget(5, 48);
        c.due("the entry stays", c.entry(5, 1, 0, 0), "[1, 5, 2, 0, 0, 0, 0]");
        c.x.deliver(0);
        c.due("taken in: its age is new", c.entry(5, 1, 0, 0), "[1, 0, 2, 0, 0, 0, 0]");
        c.due("answered", c.x.answer(1, 3), 20);
        c.due("no message", c.x.total(0), 0);
    }

    private static void sameFetchAgain(Check c) {
        put(c, "length: 200\nvary: accept-language\ncache-control: max-age=50\n");
        c.ask("GET /1\naccept-language: fr\naccept-encoding: gzip\nrange: bytes=20-70\ncache-control: no-cache\n\n");
        c.due("the first", c.message(0), "[0, 5, 1, 1, 1, 0, 1, 4, 0, 1, 0, 6]");
        steps(c, 3);
        c.x.purge(0, 1);
        c.x.deliver(5);
        c.x.deliver(0);
        c.due("the same again", c.latest(), "[0, 5, 1, 2, 1, 0, 1, 4, 1, 1, 0, 6]");
        c.due("no miss", c.x.node(5, 5), 1);
        c.due("one is out, one waits", c.x.node(5, 6) * 10 + c.x.node(5, 7), 11);
        // to another parent, if the first one is down by then
        c.fresh();
        put(c, "length: 200\n");
        c.ask("GET /1\n\n");
        steps(c, 3);
        c.x.purge(0, 1);
        c.x.deliver(5);
        c.x.fail(1);
        c.x.deliver(0);
        c.due("to the other parent", c.latest(), "[0, 5, 2, 2, 1, 0, 0, 15, 1, 0, 0, 0]");
    }

    private static void tenTicksFromNow(Check c) {
        put(c, "length: 20\n");
        c.x.tick(4);
        c.ask("GET /1\n\n");
        steps(c, 3);
        c.x.purge(0, 1);
        c.x.deliver(5);
        c.x.tick(9);
        c.x.deliver(0);
        c.x.tick(9);
        c.due("18 ticks", c.x.answer(0, 0), 0);
        c.x.tick(1);
        c.due("19 ticks", c.answer(0), "[504, 0, 0, 0, 0, 21, 23, 5, 0]");
        c.due("one strike", c.x.node(5, 9), 1);
    }

    private static void noNodeToAskAgain(Check c) {
        put(c, "length: 20\n");
        c.ask("GET /1\n\n");
        steps(c, 3);
        c.x.purge(0, 1);
        c.x.deliver(5);
        c.x.fail(1);
        c.x.fail(2);
        c.x.deliver(0);
        c.due("it fails", c.answer(0), "[504, 0, 0, 0, 0, 21, 0, 5, 0]");
        c.due("no miss, no fetch, nobody waits", c.node(5), "[1, 0, 0, 0, 0, 1, 0, 0, 1, 0, 0, 0, 0]");
        c.x.back(2);
        c.ask("GET /1\n\n");
        c.due("no number was used up", c.x.message(c.x.total(0) - 1, 3), 2);
    }

    private static void ageOfAFill(Check c) {
        put(c, "length: 20\ncache-control: max-age=50\n");
        c.ask("GET /1\n\n");
        c.x.tick(1);
        steps(c, 2);
        c.due("age 0 when it is sent", c.x.message(0, 1), 0);
        c.x.deliver(0);
        c.due("no tick since", c.x.entry(1, 1, 0, 0, 1), 0);
        c.x.tick(2);
        c.x.deliver(0);
        c.due("two ticks since", c.x.entry(5, 1, 0, 0, 1), 2);
        c.x.tick(3);
        c.x.fail(5);
        c.x.back(5);
        c.ask("GET /1\n\n");
        c.x.deliver(0);
        c.x.tick(4);
        c.x.deliver(0);
        c.due("its age of 5 and four ticks", c.x.answer(1, 2), 9);
        c.due("the entry's, too", c.x.entry(5, 1, 0, 0, 1), 9);
    }

    private static void entriesOfAnotherVary(Check c) {
        put(c, "vary: accept-language\ncache-control: max-age=50\n");
        c.get("GET /1\n\n");
        c.get("GET /1\n\n");
        c.get("GET /1\naccept-language: it\n\n");
        c.get("GET /1/1\naccept-language: it\n\n");
        c.due("two, one of them kept", c.x.node(5, 1) * 10 + c.x.node(5, 3), 21);
        put(c, "cache-control: max-age=50\n");
        c.get("GET /1\ncache-control: no-cache\n\n");
        c.due("just the new one", c.x.node(5, 1), 1);
        c.due("new, as the old one went before", c.entry(5, 1, 0, 0), "[2, 0, 0, 0, 0, 0, 0]");
        c.due("of the key alone", c.entry(4, 1, 1, 3), "[1, 0, 0, 0, 0, 0, 1]");
        c.due("at the parent, too", c.x.entry(1, 1, 1, 3, 0) * 10 + c.x.entry(1, 1, 0, 0, 0), 12);
        // the same VARY: the others stay
        put(c, "cache-control: max-age=50\n");
        put(c, "vary: accept-language\ncache-control: max-age=50\n");
        c.get("GET /1\ncache-control: no-cache\n\n");
        put(c, "vary: accept-language\ncache-control: max-age=50\n");
        c.get("GET /1\naccept-language: fr\n\n");
        c.due("two of two versions", c.x.entry(5, 1, 0, 0, 0) * 10 + c.x.entry(5, 1, 0, 2, 0), 45);
    }

    private static void blocksOfTheSameVersion(Check c) {
        put(c, "length: 255\ncache-control: max-age=50\n");
        c.get("GET /1\nrange: bytes=0-0\n\n");
        c.due("the first", c.blocks(5, 1, 0, 0), "1000000000000000");
        c.get("GET /1\nrange: bytes=254-\n\n");
        c.due("the first and the last", c.blocks(5, 1, 0, 0), "1000000000000001");
        c.due("at the parent, too", c.blocks(1, 1, 0, 0), "1000000000000001");
        c.get("GET /1\n\n");
        c.due("all", c.x.entry(5, 1, 0, 0, 2), 16);
        c.due("size 272", c.x.node(5, 2), 272);
    }

    private static void blocksOfAnotherVersion(Check c) {
        put(c, "length: 255\ncache-control: max-age=50\n");
        c.get("GET /1\nrange: bytes=0-40\n\n");
        put(c, "length: 255\ncache-control: max-age=50\n");
        c.get("GET /1\nrange: bytes=20-20\ncache-control: no-cache\n\n");
        c.due("just these", c.blocks(5, 1, 0, 0), "0100000000000000");
        put(c, "cache-control: max-age=50\n");
        c.get("GET /1\ncache-control: no-cache\n\n");
        c.due("none", c.x.entry(5, 1, 0, 0, 2), 0);
    }

    private static void noStore(Check c) {
        put(c, "length: 20\nvary: accept-language\ncache-control: max-age=50\n");
        c.get("GET /1\n\n");
        c.get("GET /1\naccept-language: de\n\n");
        put(c, "length: 30\nvary: accept-language\ncache-control: max-age=50, no-store\n");
        c.ask("GET /1\ncache-control: no-cache\n\n");
        c.x.settle();
        c.due("answered", c.answer(2), "[200, 2, 0, 30, 0, 101, 0, 5, 0]");
        c.due("that one went", c.x.entry(5, 1, 0, 0, 0), -1);
        c.due("the other which stays", c.x.entry(5, 1, 0, 1, 0), 1);
        c.due("at the parent as well", c.x.entry(1, 1, 0, 0, 0) * 10 + c.x.entry(1, 1, 0, 1, 0), -9);
        c.due("nothing is sized", c.x.node(5, 2), 48);
    }

    private static void lookedAtInTurn(Check c) {
        put(c, "length: 20\ncache-control: max-age=50\n");
        c.ask("GET /1\n\n");
        c.ask("GET /1\nrange: bytes=0-3\n\n");
        c.ask("GET /1\ncache-control: no-cache\n\n");
        c.ask("GET /1\nif-none-match: *\n\n");
        c.ask("GET /1\ncache-control: no-cache\nrange: bytes=0-3\n\n");
        steps(c, 4);
        c.due("the first is no hit", c.x.answer(0, 0) * 10 + c.x.answer(0, 4), 2000);
        c.due("the second is one", c.x.answer(1, 0) * 10 + c.x.answer(1, 4), 2061);
        c.due("the third misses", c.message(0), "[0, 5, 1, 2, 1, 0, 0, 15, 0, 1, 1, 0]");
        c.due("the fourth is a hit", c.x.answer(3, 0) * 10 + c.x.answer(3, 4), 3041);
        c.due("the fifth waits behind the third", c.node(5), "[1, 1, 48, 1, 2, 2, 1, 2, 0, 0, 0, 0, 0]");
    }

    private static void whateverItsAge(Check c) {
        put(c, "length: 20\ncache-control: max-age=0\n");
        c.ask("GET /1\ncache-control: max-age=0, min-fresh=99999\n\n");
        steps(c, 3);
        c.x.tick(9);
        c.x.deliver(0);
        c.due("answered with age 9", c.answer(0), "[200, 1, 9, 20, 0, 68, 9, 5, 0]");
        c.due("no hit, nothing is kept", c.node(5), "[1, 1, 48, 0, 0, 1, 0, 0, 0, 0, 0, 0, 0]");
    }

    private static void forcedOrNot(Check c) {
        put(c, "length: 20\ncache-control: max-age=50\n");
        c.get("GET /1\ncache-control: no-cache\n\n");
        c.due("no-cache", c.x.answer(0, 0), 200);
        c.due("no second fetch at the parent", c.x.node(1, 5), 1);
        c.due("no hit", c.x.node(5, 4) + c.x.node(1, 4), 0);
        c.due("new", c.x.entry(5, 1, 0, 0, 4) + c.x.entry(1, 1, 0, 0, 4), 0);
    }

    private static void doesNotSuitTheFirst(Check c) {
        put(c, "length: 20\nvary: accept-language\ncache-control: max-age=5, stale-while-revalidate=5\n");
        c.get("GET /1\naccept-language: de\n\n");
        c.x.tick(5);
        c.ask("GET /1\naccept-language: de\n\n");
        int r = c.ask("GET /1\naccept-language: fr\n\n");
        c.due("it waits behind the fetch for what is stale", c.x.node(5, 7), 1);
        c.x.deliver(0);
        c.x.deliver(0);
        c.due("looked at again: a miss", c.x.node(5, 5), 2);
        c.due("its own fetch", c.latest(), "[0, 5, 1, 3, 1, 0, 0, 15, 0, 0, 0, 2]");
        c.x.settle();
        c.due("which 2", c.x.answer(r, 8), 2);
    }

    private static void notEnoughForTheFirst(Check c) {
        put(c, "length: 48\ncache-control: max-age=5, stale-while-revalidate=5\n");
        c.get("GET /1\nrange: bytes=0-15\n\n");
        c.x.tick(5);
        c.ask("GET /1\nrange: bytes=0-15\n\n");
        c.ask("GET /1\nrange: bytes=16-16\n\n");
        c.x.deliver(0);
        c.x.deliver(0);
        c.due("block 1 was not in it", c.latest(), "[0, 5, 1, 3, 1, 0, 1, 1, 0, 0, 0, 0]");
        c.x.settle();
        c.due("answered then", c.x.answer(2, 0), 206);
        // the BLOCKS of the FILL and of the ENTRY together
        c.ask("GET /1\nrange: bytes=0-47\n\n");
        c.due("block 2 alone is missing", c.x.message(0, 6) * 100 + c.x.message(0, 7), 202);
        c.x.settle();
        c.due("answered from both", c.x.answer(3, 3), 48);
        c.due("by one miss", c.x.node(5, 5), 3);
    }

    private static void markBelowItsLeast(Check c) {
        put(c, "length: 20\ncache-control: max-age=5, stale-while-revalidate=9\n");
        c.get("GET /1\n\n");
        c.x.fail(5);
        c.x.back(5);
        c.x.tick(5);
        c.ask("GET /1\n\n");
        c.x.deliver(0);
        c.due("the parent's fetch for what is stale", c.message(1), "[0, 1, 0, 2, 1, 0, 0, 15, 0, 0, 1, 0]");
        c.x.deliver(1);
        c.due("the origin's fill has mark 0", c.message(1), "[1, 0, 1, 2, 1, 0, 304, 1, 0, 0, 0, 0]");
        c.x.fail(5);
        c.x.purge(0, 9);
        c.x.back(5);
        int r = c.ask("GET /1\n\n");
        c.due("least mark 1", c.latest(), "[0, 5, 1, 3, 1, 0, 0, 15, 1, 0, 0, 0]");
        c.deliverLatest();
        c.due("it waits at the parent", c.x.node(1, 7), 1);
        c.x.deliver(1);
        c.due("taken in", c.entry(1, 1, 0, 0), "[1, 0, 2, 0, 0, 0, 0]");
        c.due("but 0 is below 1: a miss", c.latest(), "[0, 1, 0, 3, 1, 0, 0, 15, 0, 0, 1, 0]");
        c.due("it waits on", c.x.node(1, 7) * 10 + c.x.node(1, 5), 12);
        c.x.settle();
        c.due("answered", c.x.answer(r, 0), 200);
        c.due("with mark 1", c.x.entry(5, 1, 0, 0, 3), 1);
    }

    private static void noneWaits(Check c) {
        put(c, "length: 20\ncache-control: max-age=5, stale-while-revalidate=5\n");
        c.get("GET /1\n\n");
        c.x.tick(5);
        c.ask("GET /1\n\n");
        String before = c.answer(1);
        c.x.settle();
        c.due("the answer stays", c.answer(1), before);
        c.due("no hit, no miss by it", c.node(5), "[1, 1, 48, 0, 0, 1, 0, 0, 0, 0, 0, 0, 0]");
        c.due("new at the parent", c.entry(1, 1, 0, 0), "[1, 0, 2, 0, 0, 0, 0]");
    }

    private static void blocksThatAreThere(Check c) {
        put(c, "length: 40\ncache-control: max-age=50\n");
        c.get("GET /1\n\n");
        c.due("the parent has three", c.blocks(1, 1, 0, 0), "1110000000000000");
        String[] ranges = {"0-15", "16-31", "32-", "16-", "48-"};
        String[] due = {"1000000000000000", "0100000000000000", "0010000000000000", "0110000000000000", "0000000000000000"};
        for (int i = 0; i < ranges.length; i++) {
            c.x.fail(5);
            c.x.back(5);
            c.get("GET /1\nrange: bytes=" + ranges[i] + "\n\n");
            c.due("blocks of " + ranges[i], c.blocks(5, 1, 0, 0), due[i]);
        }
        c.due("all were hits at the parent", c.x.node(1, 4), ranges.length);
    }

    private static void versionThatIsHad(Check c) {
        put(c, "length: 40\ncache-control: max-age=50\n");
        c.get("GET /1\n\n");
        c.x.tick(1);
        c.ask("GET /1\ncache-control: max-age=0\n\n");
        c.due("it has version 1", c.x.message(0, 10), 1);
        c.x.deliver(0);
        c.due("304", c.message(0), "[1, 1, 5, 2, 1, 0, 304, 1, 0, 0, 0, 0]");
        c.x.settle();
        put(c, "length: 40\ncache-control: max-age=50\n");
        c.get("GET /1/1\n\n");
        c.x.fail(2);
        // PARENT 1 gets version 2 by the other EDGE's no-cache
        c.x.fail(5);
        c.get("GET /1\ncache-control: no-cache\n\n");
        c.due("the parent has version 2", c.x.entry(1, 1, 0, 0, 0), 2);
        c.x.back(5);
        c.ask("GET /1\n\n");
        c.x.deliver(0);
        c.due("200, as it has nothing", c.x.message(0, 6) * 10 + c.x.message(0, 7), 2002);
    }

    private static void lengthsAtTheOrigin(Check c) {
        int[] lengths = {0, 1, 15, 16, 17, 32, 33, 240, 241, 255};
        int[] blocks = {0, 1, 1, 1, 2, 2, 3, 15, 16, 16};
        for (int i = 0; i < lengths.length; i++) {
            c.fresh();
            put(c, "length: " + lengths[i] + "\n");
            c.get("GET /1\n\n");
            c.due("blocks of " + lengths[i], c.x.entry(5, 1, 0, 0, 2), blocks[i]);
            c.due("at the parent", c.x.entry(1, 1, 0, 0, 2), blocks[i]);
        }
        c.fresh();
        put(c, "length: 40\n");
        c.get("GET /1\nrange: bytes=32-255\n\n");
        c.due("first .. last, as far as the length goes", c.blocks(1, 1, 0, 0), "0010000000000000");
        c.get("GET /1\nrange: bytes=48-\n\n");
        c.due("none is within", c.blocks(1, 1, 0, 0), "0010000000000000");
    }

    private static void markOfTheOrigin(Check c) {
        put(c, "");
        c.ask("GET /1\n\n");
        c.x.deliver(0);
        c.x.purge(0, 9);
        c.x.purge(0, 9);
        c.x.deliver(0);
        c.due("the order when it answers", c.latest(), "[1, 0, 1, 1, 1, 0, 200, 1, 2, 0, 0, 0]");
        c.x.purge(0, 9);
        c.due("stays so", c.x.message(12, 8), 2);
        c.x.deliver(12);
        c.due("age 0", c.x.entry(1, 1, 0, 0, 1), 0);
        c.due("mark 2", c.x.entry(1, 1, 0, 0, 3), 2);
    }

    private static void hadAtTheOrigin(Check c) {
        put(c, "length: 20\ncache-control: max-age=1\n");
        c.get("GET /1\n\n");
        c.x.tick(1);
        c.ask("GET /1\n\n");
        steps(c, 2);
        c.due("304 of its version", c.message(0), "[1, 0, 1, 2, 1, 0, 304, 1, 0, 0, 0, 0]");
        c.x.settle();
        c.x.tick(1);
        put(c, "length: 20\ncache-control: max-age=1\n");
        c.ask("GET /1\n\n");
        steps(c, 2);
        c.due("200 of another", c.message(0), "[1, 0, 1, 3, 1, 0, 200, 2, 0, 0, 0, 0]");
        c.x.settle();
        c.x.tick(1);
        c.x.drop(1);
        c.ask("GET /1\n\n");
        steps(c, 2);
        c.due("404 though it has one", c.message(0), "[1, 0, 1, 4, 1, 0, 404, 0, 0, 0, 0, 0]");
    }
}
