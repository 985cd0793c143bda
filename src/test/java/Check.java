import java.util.ArrayList;
import java.util.List;
import java.util.NoSuchElementException;

/** What the tests share: an object, a tape writer, and a count of wrong answers. */
final class Check {
    static final int[] EDGES = {3, 4, 5, 6};
    static final int[] PARENTS = {1, 2};

    private final String promise;
    private int wrong;
    EdgeHouse x = new EdgeHouse();

    Check(String promise) {
        this.promise = promise;
    }

    void fresh() {
        x = new EdgeHouse();
    }

    void due(String what, long got, long want) {
        if (got != want) {
            wrong++;
            System.out.println(promise + ": " + what + " answered " + got + ", due is " + want);
        }
    }

    void due(String what, boolean got, boolean want) {
        due(what, got ? 1 : 0, want ? 1 : 0);
    }

    void due(String what, String got, String want) {
        if (!got.equals(want)) {
            wrong++;
            System.out.println(promise + ": " + what + " answered <" + got + ">, due is <" + want + ">");
        }
    }

    int wrong() {
        return wrong;
    }

    void end() {
        if (wrong > 0) {
            System.exit(1);
        }
    }

    static long word(String part) {
        long word = 0;
        for (int i = 0; i < part.length(); i++) {
            word = word << 8 | part.charAt(i);
        }
        return word;
    }

    void type(String text) {
        for (int i = 0; i < text.length(); i += 8) {
            String part = text.substring(i, Math.min(i + 8, text.length()));
            due("type " + part, x.type(word(part), part.length()), true);
        }
    }

    /** Types a THING: its version, or -2 if update throws. */
    int put(String text) {
        type(text);
        return update();
    }

    int update() {
        try {
            return x.update();
        } catch (IllegalArgumentException e) {
            return -2;
        }
    }

    int ask(String text) {
        type(text);
        return x.ask();
    }

    /** The clock behind n ticks, or -2 if tick throws. */
    int tick(int n) {
        try {
            return x.tick(n);
        } catch (IllegalArgumentException e) {
            return -2;
        }
    }

    /** What answer throws: 1 NoSuchElementException, 2 IndexOutOfBoundsException, 0 nothing. */
    int thrownBy(int r, int what) {
        try {
            x.answer(r, what);
            return 0;
        } catch (NoSuchElementException e) {
            return 1;
        } catch (IndexOutOfBoundsException e) {
            return 2;
        }
    }

    /** Asks and delivers all that comes by it. */
    int get(String text) {
        int r = ask(text);
        x.settle();
        return r;
    }

    String text(int r) {
        StringBuilder b = new StringBuilder();
        int next = x.letter(r, 0);
        while (next != EdgeHouse.NONE) {
            b.append((char) next);
            next = x.letter(r, b.length());
        }
        return b.toString();
    }

    static String bytes(int p, int q, int v, int w, int from, int to) {
        StringBuilder b = new StringBuilder();
        for (int i = from; i <= to; i++) {
            b.append((char) ((31 * p + 17 * q + 5 * w + 13 * v + 7 * i + i / 16) % 256));
        }
        return b.toString();
    }

    String node(int n) {
        List<Integer> all = new ArrayList<>();
        for (int what = 0; what <= 12; what++) {
            all.add(x.node(n, what));
        }
        return all.toString();
    }

    String message(int k) {
        List<Integer> all = new ArrayList<>();
        for (int what = 0; what <= 11; what++) {
            all.add(x.message(k, what));
        }
        return all.toString();
    }

    /** The latest one of the messages that wait. */
    String latest() {
        return message(x.total(0) - 1);
    }

    void deliverLatest() {
        x.deliver(x.total(0) - 1);
    }

    /** All that can be seen of the object but its stores, answers and tape: to tell whether a call changed something. */
    String state() {
        StringBuilder b = new StringBuilder();
        for (int what = 0; what <= 6; what++) {
            b.append(x.total(what)).append(' ');
        }
        for (int n = 1; n <= 6; n++) {
            b.append(node(n)).append(' ');
        }
        for (int k = 0; k < x.total(0); k++) {
            b.append(message(k)).append(' ');
        }
        return b.append(x.fault()).toString();
    }

    /** VERSION, age, BLOCKS, MARK, part, place, VARY. */
    String entry(int n, int path, int variant, int which) {
        List<Integer> all = new ArrayList<>();
        for (int what = 0; what <= 6; what++) {
            all.add(x.entry(n, path, variant, which, what));
        }
        return all.toString();
    }

    String blocks(int n, int path, int variant, int which) {
        StringBuilder b = new StringBuilder();
        for (int k = 16; k < 32; k++) {
            b.append(x.entry(n, path, variant, which, k));
        }
        return b.toString();
    }

    /** Status, VERSION, age, bytes, how, characters, tick, EDGE, WHICH. */
    String answer(int r) {
        List<Integer> all = new ArrayList<>();
        for (int what = 0; what <= 8; what++) {
            all.add(x.answer(r, what));
        }
        return all.toString();
    }

    static int spot(long a, long b) {
        long h = a * -1640531535L + b * -2048144789L & 0xFFFFFFFFL;
        h ^= h >> 15;
        h = h * 739982445L & 0xFFFFFFFFL;
        h ^= h >> 12;
        return (int) (h >> 16);
    }

    /** The node of a KEY, by the document's words: a walk up the ring. */
    static int ring(int[] nodes, int path, int variant) {
        int from = spot(64 + path, variant);
        int best = 0;
        int bestStep = 65536;
        for (int n : nodes) {
            for (int j = 0; j < 4; j++) {
                int point = spot(n, j);
                int step = point >= from ? point - from : point - from + 65536;
                if (step < bestStep) {
                    best = n;
                    bestStep = step;
                }
            }
        }
        return best;
    }

    static int edge(int path, int variant) {
        return ring(EDGES, path, variant);
    }

    static int parent(int path, int variant) {
        return ring(PARENTS, path, variant);
    }
}
