import java.io.IOException;

/** Promise 8, lose: the sentences that name a boundary case. */
public final class B08LoseTest {
    private static final String LOSE = "The k-th message that waits is lost: true; false if there is none such.";

    public static void main(String[] args) throws IOException {
        Boundary b = new Boundary(8);
        noneSuch(b.of(LOSE));
        firstAndLast(b.of(LOSE));
        lostIsNotDelivered(b.of(LOSE));
        b.end();
    }

    private static void noneSuch(Check c) {
        int[] none = {0, 1, -1, Integer.MIN_VALUE, Integer.MAX_VALUE};
        for (int k : none) {
            c.due("none waits: " + k, c.x.lose(k), false);
        }
        c.ask("GET /1\n\n");
        String before = c.state();
        for (int k : none) {
            if (k != 0) {
                c.due("one waits: " + k, c.x.lose(k), false);
            }
        }
        c.due("nothing changed", c.state(), before);
        c.due("lose 0", c.x.lose(0), true);
        c.due("lose 0 again", c.x.lose(0), false);
        c.due("one is lost", c.x.total(4), 1);
    }

    private static void firstAndLast(Check c) {
        for (int i = 0; i < 17; i++) {
            c.x.purge(0, 0);
        }
        c.due("two too many", c.x.total(4), 2);
        c.due("lose 100", c.x.lose(100), false);
        c.due("lose 99", c.x.lose(99), true);
        c.due("the one before is the last now", c.latest(), "[2, 0, 3, 17, 0, 0, 0, 0, 0, 0, 0, 0]");
        c.due("lose 99 again", c.x.lose(99), false);
        c.due("lose 0", c.x.lose(0), true);
        c.due("the second is the first now", c.message(0), "[2, 0, 2, 1, 0, 0, 0, 0, 0, 0, 0, 0]");
        c.due("four are lost", c.x.total(4), 4);
        c.due("98 wait", c.x.total(0), 98);
    }

    private static void lostIsNotDelivered(Check c) {
        int r = c.ask("GET /1\n\n");
        c.x.lose(0);
        c.due("none waits", c.x.settle(), 0);
        c.due("the fetch is out all the same", c.x.node(5, 6), 1);
        c.x.tick(10);
        c.due("it fails", c.x.answer(r, 0), 504);
    }
}
