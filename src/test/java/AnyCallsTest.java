import java.util.NoSuchElementException;
import java.util.Random;

/**
 * All promises: runs of calls drawn by fixed seeds, wrong arguments among them. No call throws but what the document names,
 * and what must be so behind any calls is so. A run stays within 512 calls, those that look at the object among them.
 */
public final class AnyCallsTest {
    private static final int RUNS = 8000;
    private static final int CALLS = 310;
    private static final int[] PATHS = {1, 6, 3};
    private static final int[] ODD = {Integer.MIN_VALUE, -65536, -1, 7, 9, 13, 31, 32, 33, 64, 101, 255, 301, 2001, Integer.MAX_VALUE};
    private static final String[] CONTROLS = {"max-age=30", "max-age=3", "no-store", "no-cache", "max-age=2, stale-if-error=40",
        "max-age=2, stale-while-revalidate=9", "max-age=x", "public, max-age=20, max-age"};
    private static final String[] LINES = {"", "range: bytes=0-9\n", "range: bytes=20-\n", "range: bytes=-7\n", "range: bytes=9-1\n",
        "cache-control: no-cache\n", "cache-control: max-stale\n", "cache-control: only-if-cached\n", "if-none-match: *\n",
        "if-none-match: \"8\", \"16\"\n", "range: bytes=0-50\nif-range: \"16\"\n", "accept-language: de=3, fr\n",
        "accept-encoding: gzip\n", "cache-control: max-age=1, min-fresh=2\n", "range: bytes=1\n", "x:\nx:\n", "x-\u007f"};

    private final Check c;
    private final Random random;
    private final boolean[] down = new boolean[7];
    private final int[] budgets = {0, 1000, 1000, 1000, 1000, 1000, 1000};
    private final int[] purgedPath = new int[61];
    private final int[][] came = new int[7][61];
    private int clock;
    private int calls;

    private AnyCallsTest(Check c, long seed) {
        this.c = c;
        random = new Random(seed);
        java.util.Arrays.fill(purgedPath, -1);
    }

    public static void main(String[] args) {
        Check c = new Check("any calls");
        for (int seed = 0; seed < RUNS; seed++) {
            c.fresh();
            AnyCallsTest test = new AnyCallsTest(c, seed);
            try {
                test.run();
            } catch (RuntimeException e) {
                c.due("run " + seed + " throws " + e, true, false);
            }
        }
        c.end();
    }

    private void run() {
        while (calls < CALLS) {
            step(random.nextInt(30));
        }
        look();
        c.due("calls of a run", calls <= 512, true);
    }

    private void step(int kind) {
        if (kind < 4) {
            put();
        } else if (kind < 13) {
            ask();
        } else if (kind < 18) {
            deliver();
        } else if (kind == 18) {
            lose();
        } else if (kind == 19) {
            // settle hides which purges came, so these are delivered one by one
            for (int i = 0; i < 20; i++) {
                deliver();
            }
        } else if (kind < 22) {
            purge();
        } else if (kind < 24) {
            tick(any(1 + random.nextInt(12)));
        } else if (kind == 24) {
            fail(any(1 + random.nextInt(6)));
        } else if (kind == 25) {
            back(any(1 + random.nextInt(6)));
        } else if (kind == 26) {
            budget(any(1 + random.nextInt(6)), any(32 + random.nextInt(500)));
        } else if (kind == 27) {
            calls++;
            c.x.drop(any(path()));
        } else {
            wrongLooks();
        }
    }

    /** Mostly the good value, at times an odd one. */
    private int any(int good) {
        return random.nextInt(6) == 0 ? ODD[random.nextInt(ODD.length)] : good;
    }

    private int path() {
        return PATHS[random.nextInt(PATHS.length)];
    }

    private void type(String text) {
        for (int i = 0; i < text.length(); i += 8) {
            String part = text.substring(i, Math.min(i + 8, text.length()));
            calls++;
            c.x.type(Check.word(part), part.length());
        }
    }

    private void put() {
        String vary = random.nextInt(3) == 0 ? "vary: accept-language\n" : "";
        String control = CONTROLS[random.nextInt(CONTROLS.length)];
        type("PUT /" + path() + "\nlength:" + random.nextInt(260) + "\nkeys:a\n" + vary + "cache-control:" + control + "\n\n");
        calls++;
        c.update();
        calls++;
        c.due("the tape behind update is empty: fault of no text", emptyFault(), 0);
    }

    private int emptyFault() {
        calls++;
        c.update();
        return c.x.fault();
    }

    private void ask() {
        type((random.nextInt(4) == 0 ? "HEAD /" : "GET /") + path() + "\n" + LINES[random.nextInt(LINES.length)] + "\n");
        calls++;
        c.x.ask();
    }

    private void deliver() {
        int k = random.nextInt(3) == 0 ? any(random.nextInt(8)) : 0;
        calls += 4;
        boolean purge = c.x.message(k, 0) == 2;
        int to = c.x.message(k, 2);
        int number = c.x.message(k, 3);
        c.x.deliver(k);
        if (purge && !down[to]) {
            came[to][number] = 1;
        }
    }

    private void lose() {
        calls++;
        c.x.lose(any(random.nextInt(4)));
    }

    private void purge() {
        boolean byKey = random.nextInt(3) == 0;
        int which = any(byKey ? 0 : path());
        calls++;
        int number = c.x.purge(byKey ? 1 : 0, which);
        if (number != EdgeHouse.NONE && !byKey) {
            purgedPath[number] = which;
        }
    }

    private void tick(int n) {
        calls++;
        int now = c.tick(n);
        boolean good = n >= 1 && n <= 100;
        clock += good ? n : 0;
        c.due("tick " + n, now, good ? clock : -2);
    }

    private boolean isNode(int n) {
        return n >= 1 && n <= 6;
    }

    private void fail(int n) {
        calls++;
        c.due("fail " + n, c.x.fail(n), isNode(n) && !down[n]);
        if (isNode(n)) {
            down[n] = true;
            came[n] = new int[61];
        }
    }

    private void back(int n) {
        calls++;
        c.due("back " + n, c.x.back(n), isNode(n) && down[n]);
        if (isNode(n)) {
            down[n] = false;
        }
    }

    private void budget(int n, int bytes) {
        boolean good = isNode(n) && bytes >= 32 && bytes <= 2000;
        calls++;
        c.due("budget " + n + " " + bytes, c.x.budget(n, bytes), good);
        if (good) {
            budgets[n] = bytes;
        }
    }

    private void wrongLooks() {
        int a = any(random.nextInt(4));
        int b = any(random.nextInt(13));
        calls += 8;
        c.x.type(random.nextLong(), any(9));
        c.x.letter(a, b);
        c.x.node(a, b);
        c.x.entry(b, a, any(0), any(0), any(random.nextInt(32)));
        c.x.message(a, b);
        c.x.total(b);
        try {
            c.x.answer(a, b);
            c.due("an answer that is there", a >= 0 && a < c.x.total(2) && b >= 0 && b <= 8, true);
        } catch (NoSuchElementException e) {
            c.due("no such answer", a < 0 || a >= c.x.total(2), true);
        } catch (IndexOutOfBoundsException e) {
            c.due("no such what", b < 0 || b > 8, true);
        }
    }

    private void look() {
        calls += 5;
        c.due("the clock", c.x.total(6), clock);
        c.due("messages", c.x.total(0) >= 0 && c.x.total(0) <= 100, true);
        c.due("answered ones have come", c.x.total(3) <= c.x.total(2), true);
        int waiting = 0;
        for (int n = 1; n <= 6; n++) {
            calls += 4;
            c.due("up " + n, c.x.node(n, 0), down[n] ? 0 : 1);
            c.due("sizes of " + n, c.x.node(n, 2) <= budgets[n], true);
            c.due("seen of " + n, c.x.node(n, 8) <= c.x.total(1), true);
            waiting += n >= 3 ? c.x.node(n, 7) : 0;
            for (int path : PATHS) {
                for (int which = 0; which < 4; which++) {
                    lookAtEntry(n, path, which);
                }
            }
        }
        c.due("those that have come wait or are answered", c.x.total(3) + waiting, c.x.total(2));
    }

    private void lookAtEntry(int n, int path, int which) {
        calls++;
        int mark = c.x.entry(n, path, 0, which, 3);
        c.due("nothing is stored at a node that is down", down[n] && mark != EdgeHouse.NONE, false);
        for (int number = 1; number <= 60 && mark != EdgeHouse.NONE; number++) {
            if (came[n][number] == 1 && purgedPath[number] == path) {
                c.due("nothing older comes back at node " + n + " of path " + path, mark >= number, true);
            }
        }
    }
}
