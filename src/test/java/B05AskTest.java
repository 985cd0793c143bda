import java.io.IOException;

/** Promise 5, ask: the sentences that name a boundary case of a REQUEST's text and of the RING. */
public final class B05AskTest {
    private static final String ASK = "The tape (which is empty then) is a CLIENT's REQUEST, which comes to the EDGE of its KEY: "
        + "its number, from 0 on.";
    private static final String AT_ONCE = "One that is none is ANSWERED 400 at once; if no EDGE is UP, 503 "
        + "(both count as come and ANSWERED).";
    private static final String FULL = "NONE, changing nothing (the tape neither), if 300 have come.";
    private static final String TARGET = "PATH 0 .. 31, VARIANT 0 .. 3, 0 if it is not there";
    private static final String RANGE = "range: bytes=A-B, bytes=A-, bytes=-N (NUMBERS; with A above B it does not count; "
        + "other forms can't stand there).";
    private static final String MATCH = "if-none-match: * or, parted by a comma and one blank, \"NUMBER\" with its quotes and "
        + "no blanks in them (1 to 8).";
    private static final String WEIGHTS = "accept-language: a list, its words with their weights (NUMBERS; 9 without; "
        + "of a word that is there twice the last one counts)";
    private static final String LANGUAGE = "the LANGUAGE is that of en (0), de (1), fr (2), it (3) with the greatest weight above 0, "
        + "of several the first of these four; 0 without.";
    private static final String FORM = "accept-encoding: likewise: the FORM is 1, if gzip has a weight above 0, else 0.";
    private static final String CONTROL = "count (the last of a kind that does, max-stale of both forms; "
        + "not with, or without, a NUMBER otherwise than told), other words do not.";
    private static final String HASH = "the highest 16 bits of h, without a sign (as ints).";
    private static final String RING = "The node of a KEY: that of the least POINT not below H(64 + path, variant), or, "
        + "if there is none, of the least one of all; of POINTS alike that of the node with the lesser number.";

    public static void main(String[] args) throws IOException {
        Boundary b = new Boundary(5);
        numbersFrom0(b.of(ASK));
        tapeIsEmptyThen(b.of(ASK));
        noneIs400(b.of(AT_ONCE));
        noEdgeIs503(b.of(AT_ONCE));
        oneEdgeIsEnough(b.of(AT_ONCE));
        the300th(b.of(FULL));
        the301st(b.of(FULL));
        pathsAndVariants(b.of(TARGET));
        rangeForms(b.of(RANGE));
        firstAboveLast(b.of(RANGE));
        otherRangeForms(b.of(RANGE));
        howManyTags(b.of(MATCH));
        tagForms(b.of(MATCH));
        oneTagOfIfRange(b.of("if-range: one such \"NUMBER\"."));
        weightWithoutNumber(b.of(WEIGHTS));
        wordTwice(b.of(WEIGHTS));
        weightZero(b.of(LANGUAGE));
        weightsAlike(b.of(LANGUAGE));
        noLanguage(b.of(LANGUAGE));
        nothingOfTheTextBefore(b.of(LANGUAGE));
        forms(b.of(FORM));
        lastOfAKind(b.of(CONTROL));
        otherwiseThanTold(b.of(CONTROL));
        otherNames(b.of("Other NAMES have any VALUE (none, too), and do not count."));
        hashWithoutSign(b.of(HASH));
        roundTheRing(b.of(RING));
        roundTheRingOfSome(b.of(RING));
        pointsAreNeverAlike(b.of(RING));
        b.end();
    }

    private static void numbersFrom0(Check c) {
        c.due("first", c.ask("GET /1\n\n"), 0);
        c.due("second", c.ask("x"), 1);
        c.due("third", c.ask("HEAD /1\n\n"), 2);
    }

    private static void tapeIsEmptyThen(Check c) {
        c.ask("GET /1\n\n");
        c.x.ask();
        c.due("nothing is left of a good one", c.x.answer(1, 0), 400);
        c.due("it ends at 0", c.x.fault(), 0);
        c.ask("GET /1\nx");
        c.due("nothing is left of one that is none", c.put("PUT /1\n\n"), 1);
    }

    private static void noneIs400(Check c) {
        c.x.tick(7);
        int r = c.ask("GET /32\n\n");
        c.due("answer", c.answer(r), "[400, 0, 0, 0, 0, 17, 7, 0, 0]");
        c.due("come", c.x.total(2), 1);
        c.due("answered", c.x.total(3), 1);
        c.due("no message", c.x.total(0), 0);
        for (int n = 3; n <= 6; n++) {
            c.x.fail(n);
        }
        c.due("also if no edge is up", c.x.answer(c.ask("GET"), 0), 400);
    }

    private static void noEdgeIs503(Check c) {
        for (int n = 3; n <= 6; n++) {
            c.x.fail(n);
        }
        c.x.tick(7);
        int r = c.ask("GET /1\n\n");
        c.due("answer", c.answer(r), "[503, 0, 0, 0, 0, 25, 7, 0, 0]");
        c.due("come", c.x.total(2), 1);
        c.due("answered", c.x.total(3), 1);
        c.due("no message", c.x.total(0), 0);
        c.due("it was a good text", c.x.fault(), -1);
    }

    private static void oneEdgeIsEnough(Check c) {
        for (int last = 3; last <= 6; last++) {
            c.fresh();
            for (int n = 3; n <= 6; n++) {
                if (n != last) {
                    c.x.fail(n);
                }
            }
            for (int path = 0; path < 32; path += 5) {
                int r = c.ask("GET /" + path + "\n\n");
                c.due("it waits", c.x.answer(r, 0), 0);
                c.due("edge", c.x.answer(r, 7), last);
            }
        }
    }

    private static void the300th(Check c) {
        for (int i = 0; i < 299; i++) {
            c.due("request", c.x.ask(), i);
        }
        c.due("the 300th", c.ask("GET /1\n\n"), 299);
        c.due("it waits", c.x.answer(299, 0), 0);
        c.x.settle();
        c.due("it is answered", c.x.answer(299, 0), 404);
    }

    private static void the301st(Check c) {
        for (int i = 0; i < 300; i++) {
            c.x.ask();
        }
        c.type("PUT /1\n\n");
        String before = c.state();
        c.due("the 301st", c.x.ask(), -1);
        c.due("it changes nothing", c.state(), before);
        c.due("the tape neither", c.update(), 1);
        c.due("the 302nd", c.ask("GET /1\n\n"), -1);
        c.due("none such", c.thrownBy(300, 0), 1);
    }

    private static void target(Check c, String target, int path, int variant) {
        c.fresh();
        int r = c.ask("GET " + target + "\n\n");
        c.due("edge of " + target, c.x.answer(r, 7), Check.edge(path, variant));
        c.due("path of " + target, c.x.message(0, 4), path);
        c.due("variant of " + target, c.x.message(0, 5), variant);
    }

    private static void pathsAndVariants(Check c) {
        target(c, "/0", 0, 0);
        target(c, "/31", 31, 0);
        target(c, "/0/0", 0, 0);
        target(c, "/0/3", 0, 3);
        target(c, "/31/3", 31, 3);
        String[] none = {"/32", "/32/0", "/0/4", "/31/4", "/1/1/1", "/1/", "/"};
        for (String text : none) {
            c.due(text, c.x.answer(c.ask("GET " + text + "\n\n"), 0), 400);
        }
    }

    private static String status(Check c, String lines) {
        c.fresh();
        c.put("PUT /1\nlength: 40\n\n");
        int r = c.get("GET /1\n" + lines + "\n\n");
        return c.x.answer(r, 0) + " " + c.x.answer(r, 3);
    }

    private static void rangeForms(Check c) {
        c.due("0-0", status(c, "range: bytes=0-0"), "206 1");
        c.due("39-39", status(c, "range: bytes=39-39"), "206 1");
        c.due("99999-99999", status(c, "range: bytes=99999-99999"), "416 0");
        c.due("0-", status(c, "range: bytes=0-"), "206 40");
        c.due("99999-", status(c, "range: bytes=99999-"), "416 0");
        c.due("-0", status(c, "range: bytes=-0"), "416 0");
        c.due("-99999", status(c, "range: bytes=-99999"), "206 40");
    }

    private static void firstAboveLast(Check c) {
        c.due("5-4", status(c, "range: bytes=5-4"), "200 40");
        c.due("5-5", status(c, "range: bytes=5-5"), "206 1");
        c.due("1-0", status(c, "range: bytes=1-0"), "200 40");
        c.due("99999-99998", status(c, "range: bytes=99999-99998"), "200 40");
        c.due("50-49, beyond the length", status(c, "range: bytes=50-49"), "200 40");
        c.ask("GET /1/1\nrange: bytes=200-100\n\n");
        c.due("first block", c.x.message(0, 6), 0);
        c.due("last block", c.x.message(0, 7), 15);
    }

    private static void otherRangeForms(Check c) {
        String[] wrong = {"", "bytes", "bytes=", "bytes=-", "bytes=5", "bytes=1-2-3", "bytes=1-2, 3-4", "bytes=--1", "bytes=1--1",
            "bytes= 1-2", "bytes=1 -2", "Bytes=1-2", "byte=1-2", "*", "1-2", "bytes=100000-", "bytes=0-100000", "bytes=-100000"};
        for (String form : wrong) {
            c.due("<" + form + ">", status(c, "range: " + form), "400 0");
        }
    }

    private static String tags(int count, int last) {
        StringBuilder b = new StringBuilder("if-none-match: ");
        for (int i = 1; i < count; i++) {
            b.append('"').append(100 + i).append("\", ");
        }
        return b.append('"').append(last).append('"').toString();
    }

    private static void howManyTags(Check c) {
        c.due("no tag", status(c, "if-none-match: "), "400 0");
        for (int count = 1; count <= 8; count++) {
            c.due(count + " tags, the last one is it", status(c, tags(count, 8)), "304 0");
            c.due(count + " tags, none is it", status(c, tags(count, 9)), "200 40");
        }
        c.due("9 tags", status(c, tags(9, 8)), "400 0");
        c.due("the comma behind the eighth", c.x.fault(), 7 + tags(8, 100).length());
    }

    private static void tagForms(Check c) {
        c.due("any", status(c, "if-none-match: *"), "304 0");
        String[] wrong = {"**", "*, \"8\"", "\"8\", *", "8", "\"8", "8\"", "\"\"", "\" 8\"", "\"8 \"", "\"8\",\"9\"", "\"8\",  \"9\"",
            "\"8\" \"9\"", "\"8\",", "\"8\", ", "\"*\"", "\"100000\""};
        for (String form : wrong) {
            c.due("<" + form + ">", status(c, "if-none-match: " + form), "400 0");
        }
        c.due("tag 0", status(c, "if-none-match: \"0\""), "200 40");
        c.due("tag 99999", status(c, "if-none-match: \"99999\""), "200 40");
    }

    private static void oneTagOfIfRange(Check c) {
        c.due("its tag", status(c, "range: bytes=0-4\nif-range: \"8\""), "206 5");
        c.due("another tag", status(c, "range: bytes=0-4\nif-range: \"9\""), "200 40");
        c.due("tag 0", status(c, "range: bytes=0-4\nif-range: \"0\""), "200 40");
        String[] wrong = {"", "8", "\"8\", \"9\"", "*", "\"\"", "\"8\" ", "\" 8\""};
        for (String form : wrong) {
            c.due("<" + form + ">", status(c, "range: bytes=0-4\nif-range: " + form), "400 0");
        }
    }

    /** The LANGUAGE and 4 * the FORM that a FETCH has. */
    private static int choice(Check c, String lines) {
        c.fresh();
        c.ask("GET /1\n" + lines + "\n");
        return c.x.message(0, 11);
    }

    private static int language(Check c, String list) {
        return choice(c, "accept-language: " + list + "\n");
    }

    private static void weightWithoutNumber(Check c) {
        c.due("9 is above 8", language(c, "de=8, fr"), 2);
        c.due("9 is alike 9", language(c, "de=9, fr"), 1);
        c.due("9 is below 10", language(c, "de, fr=10"), 2);
        c.due("the greatest one", language(c, "de, fr=99998, it=99999"), 3);
    }

    private static void wordTwice(Check c) {
        c.due("the last is less", language(c, "de=9, fr=5, de=1"), 2);
        c.due("the last is more", language(c, "de=1, fr=5, de=9"), 1);
        c.due("the last is 0", language(c, "de=9, de=0"), 0);
        c.due("the last is without", language(c, "de=0, de"), 1);
        c.due("three times", language(c, "it=3, it=0, it=1"), 3);
    }

    private static void weightZero(Check c) {
        c.due("de=0", language(c, "de=0"), 0);
        c.due("de=1", language(c, "de=1"), 1);
        c.due("de=00000", language(c, "de=00000"), 0);
        c.due("en=0, it=1", language(c, "en=0, it=1"), 3);
        c.due("all 0", language(c, "it=0, fr=0, de=0, en=0"), 0);
        c.due("en=0 and another word", language(c, "en=0, xx=5"), 0);
    }

    private static void weightsAlike(Check c) {
        c.due("en and de", language(c, "de, en"), 0);
        c.due("de and fr", language(c, "fr=4, de=4"), 1);
        c.due("fr and it", language(c, "it=1, fr=1"), 2);
        c.due("all of them", language(c, "it, fr, de, en"), 0);
        c.due("it is more", language(c, "en=8, de=8, fr=8, it"), 3);
    }

    private static void noLanguage(Check c) {
        c.due("without the name", choice(c, ""), 0);
        c.due("other words alone", language(c, "xx, e, end, de-de"), 0);
        c.due("each alone", language(c, "it") * 100 + language(c, "fr") * 10 + language(c, "de"), 321);
    }

    private static void nothingOfTheTextBefore(Check c) {
        String[] lists = {"en=9", "de=8", "fr=7", "it=6", "xx"};
        int[] due = {0, 1, 2, 3, 0};
        for (int i = 0; i < lists.length; i++) {
            c.ask("GET /" + i + "\naccept-language: " + lists[i] + "\naccept-encoding: gzip=" + i % 2 + "\n\n");
            c.due("language and form of " + lists[i], c.x.message(i, 11), due[i] + 4 * (i % 2));
        }
        c.ask("GET /9\n\n");
        c.due("without either", c.x.message(lists.length, 11), 0);
    }

    private static void forms(Check c) {
        c.due("without the name", choice(c, ""), 0);
        c.due("gzip", choice(c, "accept-encoding: gzip\n"), 4);
        c.due("gzip=0", choice(c, "accept-encoding: gzip=0\n"), 0);
        c.due("gzip=1", choice(c, "accept-encoding: gzip=1\n"), 4);
        c.due("gzip=99999", choice(c, "accept-encoding: gzip=99999\n"), 4);
        c.due("the last is 0", choice(c, "accept-encoding: gzip, gzip=0\n"), 0);
        c.due("the last is not", choice(c, "accept-encoding: gzip=0, gzip\n"), 4);
        c.due("other words", choice(c, "accept-encoding: br, gzi, gzipp\n"), 0);
        c.due("not the greatest weight", choice(c, "accept-encoding: br=9, gzip=1\n"), 4);
        c.due("the greatest of both", choice(c, "accept-language: it\naccept-encoding: gzip\n"), 7);
    }

    /** How a request is answered from an entry of age 5 with max-age 10: 1 a HIT, 2 STALE, 0 if it waits. */
    private static int atAge5(Check c, String list) {
        c.fresh();
        c.put("PUT /1\nlength: 20\ncache-control: max-age=10\n\n");
        c.get("GET /1\n\n");
        c.x.tick(5);
        return c.x.answer(c.ask("GET /1\ncache-control: " + list + "\n\n"), 4);
    }

    private static void lastOfAKind(Check c) {
        c.due("max-age 4", atAge5(c, "max-age=9, max-age=4"), 0);
        c.due("max-age 5", atAge5(c, "max-age=4, max-age=5"), 1);
        c.due("min-fresh 5", atAge5(c, "min-fresh=1, min-fresh=5"), 0);
        c.due("min-fresh 4", atAge5(c, "min-fresh=5, min-fresh=4"), 1);
        c.due("max-stale without", atAge5(c, "max-age=0, max-stale=0, max-stale"), 2);
        c.fresh();
        c.put("PUT /1\nlength: 20\n\n");
        c.get("GET /1\n\n");
        c.x.tick(5);
        int r = c.ask("GET /1\ncache-control: max-stale, max-stale=5\n\n");
        c.due("max-stale=5 behind max-stale", c.x.answer(r, 0), 0);
        c.x.settle();
        c.x.tick(5);
        r = c.ask("GET /1\ncache-control: max-stale=5, max-stale\n\n");
        c.due("max-stale behind max-stale=5", c.x.answer(r, 4), 2);
    }

    private static void otherwiseThanTold(Check c) {
        c.due("max-age", atAge5(c, "max-age"), 1);
        c.due("max-age=4, max-age", atAge5(c, "max-age=4, max-age"), 0);
        c.due("min-fresh", atAge5(c, "min-fresh"), 1);
        c.due("no-cache=1", atAge5(c, "no-cache=1"), 1);
        c.due("no-cache", atAge5(c, "no-cache"), 0);
        c.due("other words", atAge5(c, "no-store, max-ag=0, max-ages=0, -, no-cach"), 1);
        c.due("other words with a number", atAge5(c, "foo=99999, min-fres=99999, min-freshs=99999, only-if-cached=99999"), 1);
        c.due("other words like max-stale", atAge5(c, "max-age=0, max-stal, max-stales=99, -max-stale"), 0);
        c.fresh();
        c.due("only-if-cached=0", c.x.answer(c.ask("GET /1\ncache-control: only-if-cached=0\n\n"), 0), 0);
        c.due("only-if-cached", c.x.answer(c.ask("GET /1\ncache-control: only-if-cached\n\n"), 0), 504);
    }

    private static void otherNames(Check c) {
        c.due("no value", status(c, "x:"), "200 40");
        c.due("a blank", status(c, "x: "), "200 40");
        c.due("any value", status(c, "x: \"~!  :,=999999"), "200 40");
        c.due("names of things", status(c, "length: x\nkeys:\nvary: ,"), "200 40");
        c.due("beside a name that counts", status(c, "ranges: bytes=0-1\nrang: bytes=0-1\nif-match: *"), "200 40");
        c.due("but for its first letter", status(c, "xange: bytes=0-1\nxf-none-match: *\nbccept-language:"), "200 40");
        c.due("but for its last letter", status(c, "rangx: bytes=0-1\nif-none-matcx: *\naccept-languagx:"), "200 40");
    }

    /** All keys: half of the hashes have their highest bit set, and each product wraps round. */
    private static void hashWithoutSign(Check c) {
        for (int path = 0; path < 32; path++) {
            c.fresh();
            for (int variant = 0; variant < 4; variant++) {
                int r = c.ask("GET /" + path + "/" + variant + "\n\n");
                c.due("edge of " + path + "/" + variant, c.x.answer(r, 7), Check.edge(path, variant));
                c.due("parent of " + path + "/" + variant, c.x.message(variant, 2), Check.parent(path, variant));
            }
        }
        c.due("a key above 32767", Check.spot(64 + 11, 1), 65326);
        c.due("a point above 32767", Check.spot(6, 0), 57259);
    }

    /** The greatest POINT of all EDGES is 57259 (node 6), the least one 973 (node 3). */
    private static void roundTheRing(Check c) {
        int[][] keys = {{11, 1}, {31, 1}, {6, 3}, {10, 1}, {17, 0}, {22, 3}, {27, 1}, {30, 2}};
        for (int[] key : keys) {
            c.due("no point is above it", Check.spot(64 + key[0], key[1]) > 57259, true);
            int r = c.ask("GET /" + key[0] + "/" + key[1] + "\n\n");
            c.due("edge of " + key[0] + "/" + key[1], c.x.answer(r, 7), 3);
        }
    }

    /** Of EDGES 4 and 5 the greatest POINT is 54549 (node 4), the least one 3983 (node 5). */
    private static void roundTheRingOfSome(Check c) {
        c.x.fail(3);
        c.due("without 3: 1947 of node 6", c.x.answer(c.ask("GET /11/1\n\n"), 7), 6);
        c.x.fail(6);
        c.due("without 3 and 6: 3983 of node 5", c.x.answer(c.ask("GET /31/1\n\n"), 7), 5);
        c.x.fail(5);
        c.due("node 4 alone", c.x.answer(c.ask("GET /6/3\n\n"), 7), 4);
        c.x.back(3);
        c.due("973 of node 3 again", c.x.answer(c.ask("GET /10/1\n\n"), 7), 3);
        c.x.fail(2);
        c.due("one parent alone", c.x.answer(c.ask("GET /17\n\n"), 7), 3);
        c.due("is asked", c.x.message(c.x.total(0) - 1, 2), 1);
    }

    /** So no run can tell "not below" from "above", nor which of two POINTS alike is taken. */
    private static void pointsAreNeverAlike(Check c) {
        for (int a = 4; a < 28; a++) {
            int point = Check.spot(a / 4, a % 4);
            for (int other = 4; other < a; other++) {
                c.due("points " + a + " and " + other, point == Check.spot(other / 4, other % 4), false);
            }
            for (int key = 0; key < 128; key++) {
                c.due("key and point", point == Check.spot(64 + key / 4, key % 4), false);
            }
        }
    }
}
