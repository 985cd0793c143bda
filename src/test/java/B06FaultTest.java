import java.io.IOException;

/** Promise 6, fault: the sentences that name a boundary case. */
public final class B06FaultTest {
    private static final String FAULT = "Where the latest TEXT that was none can't go on; NONE if the latest one was good, "
        + "or there was none.";
    private static final String FIRST = "the first character with which it is no such TEXT (its length, if it ends too early)";
    private static final String GREAT = "of a NUMBER that is too great (of its first five digits; "
        + "else a sixth digit can't stand there)";
    private static final String LONG = "of a NAME that was there or is too long, of a word that is too long, "
        + "its first character; of what stands behind the end the first one.";
    private static final String NAME = "NAME : VALUE (a NAME: 1 to 20 small letters or -; none ahead of the : , "
        + "behind it one blank or none), each NAME once; then an empty LINE, with which it ends.";
    private static final String LIST = "A list: at least one word, parted by a comma and one blank: "
        + "small letters or - (1 to 30), perhaps = NUMBER.";
    private static final String THIRTY = "abcdefghijklmnopqrstuvwxyzab-d";
    private static final String TWENTY = "abcdefghijklmnopq-st";

    public static void main(String[] args) throws IOException {
        Boundary b = new Boundary(6);
        noneAtFirst(b.of(FAULT));
        latestWins(b.of(FAULT));
        refusedAskIsNoText(b.of(FAULT));
        emptyTape(b.of(FIRST));
        everyPrefixOfARequest(b.of(FIRST));
        everyPrefixOfAThing(b.of(FIRST));
        everyWrongCharacter(b.of(FIRST));
        fullTape(b.of(FIRST));
        tooGreatByFiveDigits(b.of(GREAT));
        sixthDigit(b.of(GREAT));
        sixthDigitElsewhere(b.of(GREAT));
        digits(b.of("NUMBERS are 1 to 5 digits."));
        leadingZeros(b.of("NUMBERS count as numbers (05 is 5)."));
        nameThatWasThere(b.of(LONG));
        nameTooLong(b.of(LONG));
        wordTooLong(b.of(LONG));
        behindTheEnd(b.of(LONG));
        nameLengths(b.of(NAME));
        nameLetters(b.of(NAME));
        blanksAroundTheColon(b.of(NAME));
        namesThatAreAlmostThere(b.of(NAME));
        emptyLine(b.of(NAME));
        emptyList(b.of(LIST));
        partedWords(b.of(LIST));
        wordLengths(b.of(LIST));
        wordNumbers(b.of(LIST));
        b.end();
    }

    private static int asked(Check c, String text) {
        c.fresh();
        c.ask(text);
        return c.x.fault();
    }

    private static int told(Check c, String text) {
        c.fresh();
        c.put(text);
        return c.x.fault();
    }

    private static void ask(Check c, String text, int fault) {
        c.due("request <" + text + ">", asked(c, text), fault);
        c.due("status of <" + text + ">", c.x.answer(0, 0), fault < 0 ? 0 : 400);
    }

    private static void put(Check c, String text, int fault) {
        c.due("thing <" + text + ">", told(c, text), fault);
        c.due("nothing of <" + text + ">", c.x.drop(1), fault < 0);
    }

    private static void noneAtFirst(Check c) {
        c.due("no text yet", c.x.fault(), -1);
        c.type("x");
        c.due("a tape alone is no text", c.x.fault(), -1);
    }

    private static void latestWins(Check c) {
        c.put("PUT /1\nx");
        c.due("a thing that is none", c.x.fault(), 8);
        c.ask("GET /1");
        c.due("a request that is none", c.x.fault(), 6);
        c.due("asked twice", c.x.fault(), 6);
        c.x.tick(1);
        c.x.settle();
        c.due("other calls do not change it", c.x.fault(), 6);
        c.ask("GET /1\n\n");
        c.due("a good request", c.x.fault(), -1);
        c.put("PUT");
        c.due("a thing that is none again", c.x.fault(), 3);
        c.put("PUT /1\n\n");
        c.due("a good thing", c.x.fault(), -1);
    }

    private static void refusedAskIsNoText(Check c) {
        for (int i = 0; i < 299; i++) {
            c.x.ask();
        }
        c.ask("GET /1\nx");
        c.due("the 300th", c.x.fault(), 8);
        c.type("GET /1\n\n");
        c.due("the 301st", c.x.ask(), -1);
        c.due("is not looked at", c.x.fault(), 8);
    }

    private static void emptyTape(Check c) {
        ask(c, "", 0);
        put(c, "", 0);
    }

    private static void everyPrefixOfARequest(Check c) {
        String text = "HEAD /31/3\nrange: bytes=0-255\nif-none-match: \"8\", \"16\"\nif-range: \"8\"\n"
            + "accept-language: en=1, de\naccept-encoding: gzip\ncache-control: max-age=5\nx-y: any\n-:\n\n";
        for (int n = 0; n < text.length(); n++) {
            c.due("the first " + n, asked(c, text.substring(0, n)), n);
        }
        c.due("all of it", asked(c, text), -1);
    }

    private static void everyPrefixOfAThing(Check c) {
        String text = "PUT /31\nlength: 255\nkeys: a b h\nvary: accept-language, accept-encoding\n"
            + "cache-control: max-age=5, no-store\nrange: any\nx:\n\n";
        for (int n = 0; n < text.length(); n++) {
            c.due("the first " + n, told(c, text.substring(0, n)), n);
        }
        c.due("all of it", told(c, text), -1);
    }

    /** A tilde can stand in the VALUE of other NAMES alone. */
    private static void everyWrongCharacter(Check c) {
        String request = "GET /1/2\nrange: bytes=10-20\nif-none-match: \"8\", \"9\"\nif-range: \"8\"\naccept-language: en, de=2\n\n";
        for (int n = 0; n < request.length(); n++) {
            c.due("~ at " + n, asked(c, request.substring(0, n) + "~" + request.substring(n + 1)), n);
        }
        String thing = "PUT /1\nlength: 10\nkeys: a b\nvary: accept-encoding, x\ncache-control: max-age=5\n\n";
        for (int n = 0; n < thing.length(); n++) {
            c.due("~ of a thing at " + n, told(c, thing.substring(0, n) + "~" + thing.substring(n + 1)), n);
        }
    }

    private static void fullTape(Check c) {
        StringBuilder b = new StringBuilder("GET /1\nx:");
        while (b.length() < 300) {
            b.append('v');
        }
        ask(c, b.toString(), 300);
        ask(c, b.substring(0, 299) + "\n", 300);
        ask(c, b.substring(0, 298) + "\n\n", -1);
        ask(c, b.substring(0, 297) + "\n\n!", 299);
    }

    private static void tooGreatByFiveDigits(Check c) {
        ask(c, "GET /32\n\n", 5);
        ask(c, "GET /00032\n\n", 5);
        ask(c, "GET /000320\n\n", 5);
        ask(c, "GET /99999\n\n", 5);
        ask(c, "GET /999999\n\n", 5);
        ask(c, "GET /32", 5);
        ask(c, "GET /32x\n\n", 5);
        ask(c, "GET /1/4\n\n", 7);
        ask(c, "GET /1/00004\n\n", 7);
        ask(c, "GET /1/000040\n\n", 7);
        ask(c, "GET /1/10\n\n", 7);
        put(c, "PUT /1\nlength: 256\n\n", 15);
        put(c, "PUT /1\nlength: 00256\n\n", 15);
        put(c, "PUT /1\nlength: 002560\n\n", 15);
        put(c, "PUT /1\nlength:256", 14);
    }

    private static void sixthDigit(Check c) {
        ask(c, "GET /000031\n\n", 10);
        ask(c, "GET /000311\n\n", 10);
        ask(c, "GET /000000\n\n", 10);
        ask(c, "GET /1/000003\n\n", 12);
        ask(c, "GET /1/000033\n\n", 12);
        put(c, "PUT /000001\n\n", 10);
        put(c, "PUT /1\nlength: 000255\n\n", 20);
        put(c, "PUT /1\nlength: 002555\n\n", 20);
    }

    private static void sixthDigitElsewhere(Check c) {
        ask(c, "GET /1\nrange: bytes=000001-2\n\n", 25);
        ask(c, "GET /1\nrange: bytes=1-000002\n\n", 27);
        ask(c, "GET /1\nrange: bytes=-999999\n\n", 26);
        ask(c, "GET /1\nif-none-match: \"000008\"\n\n", 28);
        ask(c, "GET /1\nif-none-match: \"8\", \"000008\"\n\n", 33);
        ask(c, "GET /1\nif-range: \"999999\"\n\n", 23);
        ask(c, "GET /1\naccept-language: en=100000\n\n", 32);
        ask(c, "GET /1\ncache-control: x=1, max-age=100000\n\n", 40);
        put(c, "PUT /1\ncache-control: max-age=000000\n\n", 35);
    }

    private static void digits(Check c) {
        ask(c, "GET /\n\n", 5);
        ask(c, "GET /1/\n\n", 7);
        ask(c, "GET /0/0\n\n", -1);
        ask(c, "GET /00000/00000\n\n", -1);
        ask(c, "GET /000000\n\n", 10);
        put(c, "PUT /1\nlength: \n\n", 15);
        put(c, "PUT /1\nlength: 0\n\n", -1);
        put(c, "PUT /1\nlength: 00000\n\n", -1);
        ask(c, "GET /1\nrange: bytes=0-99999\n\n", -1);
        ask(c, "GET /1\nrange: bytes=-\n\n", 21);
        ask(c, "GET /1\nif-range: \"\"\n\n", 18);
        ask(c, "GET /1\naccept-language: en=\n\n", 27);
        ask(c, "GET /1\naccept-language: en=+1\n\n", 27);
        ask(c, "GET /-1\n\n", 5);
    }

    private static void leadingZeros(Check c) {
        c.put("PUT /05\nlength: 010\ncache-control: max-age=00003\n\n");
        c.due("path 5, variant 2", c.x.answer(c.ask("GET /00005/002\n\n"), 7), Check.edge(5, 2));
        c.due("path", c.x.message(0, 4), 5);
        c.due("variant", c.x.message(0, 5), 2);
        c.x.settle();
        c.due("length 10", c.x.answer(0, 3), 10);
        c.due("tag 8", c.x.answer(c.ask("GET /5/2\nif-none-match: \"00008\"\n\n"), 0), 304);
        c.due("range 1-2", c.x.answer(c.ask("GET /5/2\nrange: bytes=01-0002\n\n"), 3), 2);
        c.due("range -3", c.x.answer(c.ask("GET /5/2\nrange: bytes=-00003\n\n"), 3), 3);
        c.x.tick(2);
        c.due("max-age 3 at 2", c.x.answer(c.ask("GET /5/2\n\n"), 4), 1);
        c.due("max-age 1 of the request", c.x.answer(c.ask("GET /5/2\ncache-control: max-age=01\n\n"), 0), 0);
    }

    private static void nameThatWasThere(Check c) {
        ask(c, "GET /1\na:\na:\n\n", 10);
        ask(c, "GET /1\na:\nb:\na:\n\n", 13);
        ask(c, "GET /1\na:\nb:\nb: x\n\n", 13);
        ask(c, "GET /1\nrange: bytes=0-1\nrange: bytes=0-1\n\n", 24);
        ask(c, "GET /1\nrange: bytes=0-1\nrange:", 24);
        put(c, "PUT /1\nlength: 1\nlength: 1\n\n", 17);
        put(c, "PUT /1\n" + TWENTY + ":\n" + TWENTY + ":\n\n", 29);
    }

    private static void nameTooLong(Check c) {
        ask(c, "GET /1\n" + TWENTY + "u: x\n\n", 7);
        ask(c, "GET /1\n" + TWENTY + "uvw\n\n", 7);
        ask(c, "GET /1\n" + TWENTY + "u", 7);
        ask(c, "GET /1\na:\n" + TWENTY + TWENTY + ":\n\n", 10);
        put(c, "PUT /1\n" + TWENTY + "-: x\n\n", 7);
    }

    private static void wordTooLong(Check c) {
        String[] names = {"accept-language", "accept-encoding", "cache-control"};
        for (String name : names) {
            String head = "GET /1\n" + name + ": ";
            ask(c, head + THIRTY + "e\n\n", head.length());
            ask(c, head + THIRTY + "e=1\n\n", head.length());
            ask(c, head + THIRTY + "e", head.length());
            ask(c, head + "a, b=2, " + THIRTY + THIRTY + ", c\n\n", head.length() + 8);
        }
        put(c, "PUT /1\nvary: " + THIRTY + "-\n\n", 13);
        put(c, "PUT /1\ncache-control: no-store, " + THIRTY + "-\n\n", 32);
    }

    private static void behindTheEnd(Check c) {
        ask(c, "GET /1\n\n\n", 8);
        ask(c, "GET /1\n\nx: y\n\n", 8);
        ask(c, "GET /1\n\nGET /1\n\n", 8);
        ask(c, "GET /1\nx:\n\n ", 11);
        put(c, "PUT /1\n\n\n\n", 8);
        put(c, "PUT /1\nx:\n\nPUT /1\n\n", 11);
    }

    private static void nameLengths(Check c) {
        ask(c, "GET /1\n: x\n\n", 7);
        ask(c, "GET /1\na: x\n\n", -1);
        ask(c, "GET /1\n" + TWENTY + ": x\n\n", -1);
        ask(c, "GET /1\n" + TWENTY + "u: x\n\n", 7);
        put(c, "PUT /1\n:\n\n", 7);
        put(c, "PUT /1\n" + TWENTY + ":\n\n", -1);
    }

    private static void nameLetters(Check c) {
        ask(c, "GET /1\na:\nz:\n-:\n--:\n\n", -1);
        ask(c, "GET /1\n`:\n\n", 7);
        ask(c, "GET /1\n{:\n\n", 7);
        ask(c, "GET /1\na{:\n\n", 8);
        ask(c, "GET /1\nA:\n\n", 7);
        ask(c, "GET /1\na_:\n\n", 8);
        ask(c, "GET /1\na1:\n\n", 8);
    }

    private static void blanksAroundTheColon(Check c) {
        ask(c, "GET /1\nrange :bytes=0-1\n\n", 12);
        ask(c, "GET /1\nrange:bytes=0-1\n\n", -1);
        ask(c, "GET /1\nrange: bytes=0-1\n\n", -1);
        ask(c, "GET /1\nrange:  bytes=0-1\n\n", 14);
        ask(c, "GET /1\n range: bytes=0-1\n\n", 7);
        ask(c, "GET /1\nx: \ny:  \n\n", -1);
        put(c, "PUT /1\nlength :1\n\n", 13);
        put(c, "PUT /1\nlength:1\n\n", -1);
        put(c, "PUT /1\nlength:  1\n\n", 15);
    }

    private static void namesThatAreAlmostThere(Check c) {
        ask(c, "GET /1\nab:\na:\nabc:\nb:\n-ab:\nab-:\n\n", -1);
        ask(c, "GET /1\nrange: bytes=0-1\nrang: 1\nranges: 2\n\n", -1);
        put(c, "PUT /1\nlength: 1\nlengt: 2\nlengths: 3\n\n", -1);
    }

    private static void emptyLine(Check c) {
        ask(c, "GET /1\n", 7);
        ask(c, "GET /1\n\n", -1);
        ask(c, "GET /1\nx: y\n", 12);
        ask(c, "GET /1\nx: y\n\n", -1);
        ask(c, "GET /1\n \n", 7);
        put(c, "PUT /1\n", 7);
        put(c, "PUT /1\n\n", -1);
    }

    private static void emptyList(Check c) {
        String[] names = {"accept-language", "accept-encoding", "cache-control"};
        for (String name : names) {
            String head = "GET /1\n" + name + ":";
            ask(c, head + "\n\n", head.length());
            ask(c, head + " \n\n", head.length() + 1);
            ask(c, head + "a\n\n", -1);
            ask(c, head + " a\n\n", -1);
        }
        put(c, "PUT /1\nvary:\n\n", 12);
        put(c, "PUT /1\ncache-control: \n\n", 22);
    }

    private static void partedWords(Check c) {
        String head = "GET /1\ncache-control: ";
        int at = head.length();
        ask(c, head + "a, b\n\n", -1);
        ask(c, head + "a,b\n\n", at + 2);
        ask(c, head + "a,  b\n\n", at + 3);
        ask(c, head + "a b\n\n", at + 1);
        ask(c, head + "a,\n\n", at + 2);
        ask(c, head + "a, \n\n", at + 3);
        ask(c, head + ", a\n\n", at);
        ask(c, head + "a, , b\n\n", at + 3);
        ask(c, head + "a \n\n", at + 1);
    }

    private static void wordLengths(Check c) {
        String[] names = {"accept-language", "accept-encoding", "cache-control"};
        for (String name : names) {
            ask(c, "GET /1\n" + name + ": -\n\n", -1);
            ask(c, "GET /1\n" + name + ": " + THIRTY + "\n\n", -1);
            ask(c, "GET /1\n" + name + ": " + THIRTY + "=1, " + THIRTY + "\n\n", -1);
        }
        put(c, "PUT /1\nvary: " + THIRTY + "\n\n", -1);
        put(c, "PUT /1\nvary: =1\n\n", 13);
    }

    private static void wordNumbers(Check c) {
        String head = "GET /1\naccept-language: ";
        int at = head.length();
        ask(c, head + "en=0\n\n", -1);
        ask(c, head + "en=99999\n\n", -1);
        ask(c, head + "en=\n\n", at + 3);
        ask(c, head + "en=a\n\n", at + 3);
        ask(c, head + "en=1a\n\n", at + 4);
        ask(c, head + "en==1\n\n", at + 3);
        ask(c, head + "en = 1\n\n", at + 2);
        ask(c, head + "en1\n\n", at + 2);
    }
}
