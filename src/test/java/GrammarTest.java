import java.util.HashSet;
import java.util.Random;
import java.util.Set;
import java.util.regex.Matcher;
import java.util.regex.Pattern;

/**
 * Promises 3, 5 and 6: TEXTS drawn by a fixed seed, good and bad ones, against the document's grammar as a pattern. Where a
 * TEXT can't go on is found by another way than the class has: the first beginning of it from which no match can come.
 */
public final class GrammarTest {
    private static final int TEXTS = 40000;
    private static final String NUMBER = "[0-9]{1,5}";
    private static final String PATH = "(?:0{0,4}[0-9]|0{0,3}[12][0-9]|0{0,3}3[01])";
    private static final String VARIANT = "0{0,4}[0-3]";
    private static final String LENGTH = "(?:0{0,4}[0-9]|0{0,3}[0-9]{2}|0{0,2}1[0-9]{2}|0{0,2}2[0-4][0-9]|0{0,2}25[0-5])";
    private static final String WORD = "[a-z-]{1,30}(?:=" + NUMBER + ")?";
    private static final String LIST = WORD + "(?:, " + WORD + ")*";
    private static final String TAG = "\"" + NUMBER + "\"";
    private static final String OTHER = "[a-z-]{1,20}:[ -~]*\n";
    private static final Pattern REQUEST = Pattern.compile("(?:GET|HEAD) /" + PATH + "(?:/" + VARIANT + ")?\n(?:"
        + "range: ?bytes=(?:" + NUMBER + "-(?:" + NUMBER + ")?|-" + NUMBER + ")\n"
        + "|if-none-match: ?(?:\\*|" + TAG + "(?:, " + TAG + "){0,7})\n"
        + "|if-range: ?" + TAG + "\n"
        + "|(?:accept-language|accept-encoding|cache-control): ?" + LIST + "\n"
        + "|(?!(?:range|if-none-match|if-range|accept-language|accept-encoding|cache-control):)" + OTHER + ")*\n");
    private static final Pattern THING = Pattern.compile("PUT /" + PATH + "\n(?:"
        + "length: ?" + LENGTH + "\n"
        + "|(?:cache-control|vary): ?" + LIST + "\n"
        + "|keys: ?[a-h](?: [a-h]){0,7}\n"
        + "|(?!(?:length|cache-control|vary|keys):)" + OTHER + ")*\n");

    private static final String[] NUMBERS = {"0", "3", "4", "5", "31", "32", "255", "256", "00031", "00032", "000311", "00255",
        "02550", "99999", "100000", "000001"};
    private static final String[] WORDS = {"en", "gzip", "max-age", "no-cache", "max-stale", "-", "no-store", "accept-language",
        "a-word-that-has-just-thirty-ch", "a-word-that-has-thirty-one-char"};
    private static final String[] ASKED = {"range", "if-none-match", "if-range", "accept-language", "accept-encoding",
        "cache-control", "x", "rang", "ranges", "length", "a-name-of-twenty-let", "a-name-of-twenty-one-"};
    private static final String[] TOLD = {"length", "cache-control", "keys", "vary", "x", "key", "lengths", "range",
        "a-name-of-twenty-let", "a-name-of-twenty-one-"};
    private static final String SLIPS = "\n \":,=-*/0123456789abghGETHPU~";

    private final Random random = new Random(7);

    public static void main(String[] args) {
        Check c = new Check("promises 3, 5 and 6");
        GrammarTest test = new GrammarTest();
        int good = 0;
        for (int i = 0; i < TEXTS; i++) {
            boolean asked = i % 2 == 0;
            String text = test.text(asked);
            int due = fault(asked ? REQUEST : THING, text);
            c.fresh();
            c.type(text);
            boolean taken = asked ? c.x.answer(c.x.ask(), 0) != 400 : c.update() != -2;
            c.due("good: " + text, taken, due == EdgeHouse.NONE);
            c.due("fault of " + text, c.x.fault(), due);
            good += taken ? 1 : 0;
        }
        c.due("good ones and bad ones were there", good > TEXTS / 10 && good < TEXTS / 2, true);
        c.end();
    }

    private static int fault(Pattern pattern, String text) {
        int end = firstWrong(pattern, text);
        int twice = nameTwice(text, end == EdgeHouse.NONE ? text.length() : end);
        if (twice != EdgeHouse.NONE) {
            return twice;
        }
        if (end == EdgeHouse.NONE || end == text.length()) {
            return end;
        }
        int digits = runBefore(text, end, "[0-9]");
        if (digits >= 1 && digits <= 4) {
            return end - digits;
        }
        int letters = runBefore(text, end, "[a-z-]");
        boolean name = text.charAt(Math.max(0, end - letters - 1)) == '\n';
        return letters == (name ? 20 : 30) ? end - letters : end;
    }

    /** The first character with which no match can come; NONE for a match, the length if it ends too early. */
    private static int firstWrong(Pattern pattern, String text) {
        if (pattern.matcher(text).matches()) {
            return EdgeHouse.NONE;
        }
        for (int i = 0; i < text.length(); i++) {
            Matcher beginning = pattern.matcher(text.substring(0, i + 1));
            if (!beginning.matches() && !beginning.hitEnd()) {
                return i;
            }
        }
        return text.length();
    }

    /** Where the first NAME stands that was there and has its : ahead of end. */
    private static int nameTwice(String text, int end) {
        Set<String> names = new HashSet<>();
        Matcher name = Pattern.compile("\n([a-z-]+):").matcher(text);
        while (name.find() && name.end() <= end) {
            if (!names.add(name.group(1))) {
                return name.start(1);
            }
        }
        return EdgeHouse.NONE;
    }

    /** How many characters of a kind stand right ahead of the one at end; 0 if that is not of it. */
    private static int runBefore(String text, int end, String kind) {
        if (!text.substring(end, end + 1).matches(kind)) {
            return 0;
        }
        int start = end;
        while (start > 0 && text.substring(start - 1, start).matches(kind)) {
            start--;
        }
        return end - start;
    }

    private String of(String... choice) {
        return choice[random.nextInt(choice.length)];
    }

    private String text(boolean asked) {
        StringBuilder text = new StringBuilder(asked ? of("GET", "GET", "HEAD", "PUT") : of("PUT", "PUT", "PUT", "GET"));
        text.append(" /").append(of("7", "7", "7", of(NUMBERS)));
        if (random.nextInt(5) == 0) {
            text.append('/').append(of(NUMBERS));
        }
        text.append('\n');
        while (random.nextInt(3) != 0 && text.length() < 150) {
            text.append(line(asked));
        }
        text.append('\n');
        if (random.nextInt(3) == 0) {
            slip(text);
        }
        text.setLength(Math.min(text.length(), random.nextInt(9) == 0 ? random.nextInt(40) : 300));
        return text.toString();
    }

    private void slip(StringBuilder text) {
        int at = random.nextInt(text.length());
        char c = SLIPS.charAt(random.nextInt(SLIPS.length()));
        if (random.nextBoolean()) {
            text.setCharAt(at, c);
        } else {
            text.insert(at, c);
        }
    }

    private String line(boolean asked) {
        String name = of(asked ? ASKED : TOLD);
        return name + of(": ", ": ", ":", ":", ":  ", " :") + value(name, asked) + "\n";
    }

    private String value(String name, boolean asked) {
        switch (name) {
            case "range":
                return "bytes=" + of(of(NUMBERS) + "-" + of(NUMBERS), of(NUMBERS) + "-", "-" + of(NUMBERS), "-");
            case "if-none-match":
                return of("*", "**", many("\"8\"", ", "), many("\"" + of(NUMBERS) + "\"", ", "));
            case "if-range":
                return of("\"8\"", "\"" + of(NUMBERS) + "\"", "*");
            case "length":
                return of(NUMBERS);
            case "keys":
                return many(of("a", "h", "i"), " ");
            case "accept-language":
            case "accept-encoding":
            case "cache-control":
            case "vary":
                return many(of(WORDS) + of("", "", "=" + of(NUMBERS)), of(", ", ", ", ",", ",  "));
            default:
                return of("", " ", "any: thing");
        }
    }

    private String many(String one, String between) {
        StringBuilder all = new StringBuilder(one);
        for (int i = random.nextInt(3) == 0 ? 6 + random.nextInt(4) : random.nextInt(2); i > 0; i--) {
            all.append(between).append(one);
        }
        return all.toString();
    }
}
