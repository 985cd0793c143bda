import java.io.IOException;

/** Promise 4, drop: the sentences that name a boundary case. */
public final class B04DropTest {
    private static final String DROP = "The origin has nothing at a PATH any more (STORES keep what they have): true; "
        + "false if there was nothing, or no such PATH.";
    private static final String VERSION = "THE ORIGIN has for each PATH a VERSION (0: there is nothing), "
        + "and with it what its THING told.";

    public static void main(String[] args) throws IOException {
        Boundary b = new Boundary(4);
        firstAndLastPath(b.of(DROP));
        noSuchPath(b.of(DROP));
        nothingThere(b.of(DROP));
        storesKeep(b.of(DROP));
        versionZero(b.of(VERSION));
        versionZeroAgain(b.of(VERSION));
        b.end();
    }

    private static void firstAndLastPath(Check c) {
        c.put("PUT /0\n\n");
        c.put("PUT /31\n\n");
        c.due("drop 0", c.x.drop(0), true);
        c.due("drop 31", c.x.drop(31), true);
    }

    private static void noSuchPath(Check c) {
        for (int path = 0; path < 32; path++) {
            c.put("PUT /" + path + "\n\n");
        }
        int[] none = {-1, 32, 33, 64, Integer.MIN_VALUE, Integer.MAX_VALUE};
        for (int path : none) {
            c.due("drop " + path, c.x.drop(path), false);
        }
        for (int path = 0; path < 32; path++) {
            c.due("still there: " + path, c.x.drop(path), true);
        }
    }

    private static void nothingThere(Check c) {
        c.due("never was", c.x.drop(5), false);
        c.put("PUT /5\n\n");
        c.due("it is there", c.x.drop(5), true);
        c.due("no more", c.x.drop(5), false);
        c.put("PUT /5\nx");
        c.due("a text that is none puts nothing there", c.x.drop(5), false);
    }

    private static void storesKeep(Check c) {
        c.put("PUT /1\nlength: 20\ncache-control: max-age=5\n\n");
        c.get("GET /1\n\n");
        c.x.drop(1);
        c.due("at the edge", c.x.entry(5, 1, 0, 0, 0), 1);
        c.due("at the parent", c.x.entry(1, 1, 0, 0, 0), 1);
        c.due("a hit", c.x.answer(c.ask("GET /1\n\n"), 4), 1);
        c.due("no message goes out", c.x.total(0), 0);
    }

    private static void versionZero(Check c) {
        c.ask("GET /31\n\n");
        c.x.deliver(0);
        c.x.deliver(0);
        c.due("status of the fill", c.x.message(0, 6), 404);
        c.due("version of the fill", c.x.message(0, 7), 0);
        c.put("PUT /31\n\n");
        c.x.settle();
        c.due("what was under way", c.x.answer(0, 0), 404);
        c.due("version 1 then", c.x.answer(c.get("GET /31\n\n"), 1), 1);
    }

    private static void versionZeroAgain(Check c) {
        c.put("PUT /31\n\n");
        c.x.drop(31);
        c.due("404", c.x.answer(c.get("GET /31\n\n"), 0), 404);
        c.put("PUT /31\n\n");
        c.due("version 2", c.x.answer(c.get("GET /31\n\n"), 1), 2);
    }
}
