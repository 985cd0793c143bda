import java.io.IOException;

/** Promise 2, type: the sentences that name a boundary case. */
public final class B02TypeTest {
    private static final String TYPE = "The n (1 .. 8) lowest bytes of word, the highest first, go to the tape: true; "
        + "false, changing nothing, for another n, a byte that is not 10 or 32 .. 126, or if it would have more than 300.";
    private static final String TAPE = "THE TAPE has at most 300 characters (10, which ends a LINE, and 32 .. 126).";

    public static void main(String[] args) throws IOException {
        Boundary b = new Boundary(2);
        oneByte(b.of(TYPE));
        eightBytes(b.of(TYPE));
        bytesAboveTheLowest(b.of(TYPE));
        noneAndNine(b.of(TYPE));
        bytesBesideTheGoodOnes(b.of(TYPE));
        wrongByteInEachPlace(b.of(TYPE));
        moreThan300(b.of(TYPE));
        exactly300(b.of(TAPE));
        emptiedTapeHas300Again(b.of(TAPE));
        firstAndLastCharacters(b.of(TAPE));
        b.end();
    }

    private static void oneByte(Check c) {
        String text = "PUT /7\n\n";
        for (int i = 0; i < text.length(); i++) {
            c.due("one byte", c.x.type(text.charAt(i), 1), true);
        }
        c.due("a thing", c.update(), 1);
        c.due("of path 7", c.x.drop(7), true);
    }

    private static void eightBytes(Check c) {
        c.due("eight bytes", c.x.type(Check.word("PUT /7\n\n"), 8), true);
        c.due("a thing", c.update(), 1);
        c.due("the highest first", c.x.drop(7), true);
    }

    private static void bytesAboveTheLowest(Check c) {
        c.due("wrong bytes above do not matter", c.x.type(0xFF00017F1F00FF50L, 1), true);
        c.due("nor do good ones", c.x.type(Check.word("xxxxxUT "), 3), true);
        c.due("seven of eight", c.x.type(0x80L << 56 | Check.word("/07\nx:\n"), 7), true);
        c.due("one more", c.x.type(10, 1), true);
        c.due("a thing", c.update(), 1);
        c.due("of path 7", c.x.drop(7), true);
    }

    private static void noneAndNine(Check c) {
        c.type("PUT /1");
        int[] wrong = {0, 9, -1, -8, 10, 64, Integer.MIN_VALUE, Integer.MAX_VALUE};
        for (int n : wrong) {
            c.due("n " + n, c.x.type(Check.word("22222222"), n), false);
        }
        c.type("\n\n");
        c.due("it changed nothing", c.update(), 1);
        c.due("path 1", c.x.drop(1), true);
    }

    private static void bytesBesideTheGoodOnes(Check c) {
        c.type("PUT /1");
        int[] wrong = {0, 9, 11, 13, 31, 127, 128, 138, 160, 255};
        for (int one : wrong) {
            c.due("byte " + one, c.x.type(one, 1), false);
        }
        c.type("\n\n");
        c.due("it changed nothing", c.update(), 1);
        int[] good = {10, 32, 33, 125, 126};
        for (int one : good) {
            c.due("byte " + one, c.x.type(one, 1), true);
        }
    }

    private static void wrongByteInEachPlace(Check c) {
        c.type("PUT /1");
        for (int n = 1; n <= 8; n++) {
            for (int place = 0; place < n; place++) {
                long good = Check.word("22222222");
                long word = good & ~(255L << 8 * place) | 127L << 8 * place;
                c.due("wrong byte " + place + " of " + n, c.x.type(word, n), false);
            }
        }
        c.type("\n\n");
        c.due("nothing of them went to the tape", c.update(), 1);
        c.due("path 1", c.x.drop(1), true);
    }

    /** A THING of so many characters but for the two at its end. */
    private static String begun(int length) {
        StringBuilder b = new StringBuilder("PUT /1\nx:");
        while (b.length() < length - 2) {
            b.append('v');
        }
        return b.toString();
    }

    private static void moreThan300(Check c) {
        c.type(begun(297));
        c.due("295 and 8", c.x.type(Check.word("vvvvvv\n\n"), 8), false);
        c.due("295 and 6", c.x.type(Check.word("vvvv\n\n"), 6), false);
        c.due("295 and 5", c.x.type(Check.word("vvv\n\n"), 5), true);
        for (int n = 1; n <= 8; n++) {
            c.due("300 and " + n, c.x.type(Check.word("\n\n\n\n\n\n\n\n"), n), false);
        }
        c.due("it changed nothing", c.update(), 1);
    }

    private static void exactly300(Check c) {
        c.type(begun(300));
        c.due("two more", c.x.type(Check.word("\n\n"), 2), true);
        c.due("one more", c.x.type(10, 1), false);
        c.due("300 characters are a thing", c.update(), 1);
        c.due("without a fault", c.x.fault(), -1);
    }

    private static void emptiedTapeHas300Again(Check c) {
        c.type(begun(302));
        c.due("no line end fits", c.x.type(10, 1), false);
        c.due("no thing", c.update(), -2);
        c.due("it ended too early", c.x.fault(), 300);
        c.type(begun(302));
        c.due("again not", c.x.type(10, 1), false);
        c.x.ask();
        c.type(begun(300) + "\n\n");
        c.due("behind a request, too", c.update(), 1);
    }

    private static void firstAndLastCharacters(Check c) {
        c.type("PUT /1\nx: !~}| \ny:\n\n");
        c.due("a thing with blanks and ~", c.update(), 1);
        for (int one = 0; one < 256; one++) {
            c.due("byte " + one, c.x.type(one, 1), one == 10 || one >= 32 && one <= 126);
        }
    }
}
