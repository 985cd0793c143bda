import java.io.IOException;

/** Promise 14, budget: the sentences that name a boundary case of BUDGETS and STORES. */
public final class B14BudgetTest {
    private static final String BUDGET = "A node's BUDGET (32 .. 2000; its STORE is looked at as behind one that is USED): true; "
        + "false if it is none of 1 .. 6, or another BUDGET.";
    private static final String SIZE = "Its SIZE: 16, and 16 for each BLOCK.";
    private static final String COMES = "An ENTRY that comes is the latest one of NEW (one that was in KEPT already: of KEPT); "
        + "one that is USED comes to be the latest one of KEPT";
    private static final String HALF = "as long as those in KEPT have more than half of the BUDGET (downwards), "
        + "the oldest one of KEPT comes to be the latest one of NEW";
    private static final String ALL = "then, as long as all have more than the BUDGET, the oldest one of NEW goes, or of KEPT, "
        + "if NEW has none (perhaps the one that just came).";
    private static final String FIRST = "has a STORE with a BUDGET (1000 at first)";

    public static void main(String[] args) throws IOException {
        Boundary b = new Boundary(14);
        leastAndMost(b.of(BUDGET));
        anotherBudget(b.of(BUDGET));
        noneOfThem(b.of(BUDGET));
        lookedAtAtOnce(b.of(BUDGET));
        nodeThatIsDown(b.of(BUDGET));
        leastBudgetHolds(b.of(BUDGET));
        mostBudgetHolds(b.of(BUDGET));
        halfOf1000(b.of(FIRST));
        sizes(b.of(SIZE));
        latestOfNew(b.of(COMES));
        latestOfKept(b.of(COMES));
        keptThatComesAgain(b.of(COMES));
        exactlyHalf(b.of(HALF));
        halfDownwards(b.of(HALF));
        severalLeaveKept(b.of(HALF));
        usedAndOutAtOnce(b.of(HALF));
        exactlyAll(b.of(ALL));
        severalGo(b.of(ALL));
        theOneThatJustCame(b.of(ALL));
        keptIsSparedByNew(b.of(ALL));
        b.end();
    }

    /** Keys of EDGE 6, whose parents keep their own stores. */
    private static final int[] PATHS = {2, 5, 9, 10, 11};

    /** The version that is put comes to the edge, whatever its parent has. */
    private static void store(Check c, int path, int length) {
        c.put("PUT /" + path + "\nlength: " + length + "\ncache-control: max-age=99\n\n");
        c.get("GET /" + path + "\ncache-control: no-cache\n\n");
    }

    /** Four entries of 48 at EDGE 6, in the order 2, 5, 9, 10. */
    private static void four(Check c, int budget) {
        c.fresh();
        c.due("budget " + budget, c.x.budget(6, budget), true);
        for (int i = 0; i < 4; i++) {
            store(c, PATHS[i], 20);
        }
    }

    private static void use(Check c, int path) {
        int r = c.ask("GET /" + path + "\n\n");
        c.due("a hit of " + path, c.x.answer(r, 4), 1);
    }

    /** The paths of both parts, the oldest first: "NEW | KEPT". */
    private static String parts(Check c) {
        StringBuilder b = new StringBuilder();
        for (int part = 0; part <= 1; part++) {
            for (int place = 0; place < 6; place++) {
                for (int path : PATHS) {
                    if (c.x.entry(6, path, 0, 0, 4) == part && c.x.entry(6, path, 0, 0, 5) == place) {
                        b.append(path).append(' ');
                    }
                }
            }
            b.append(part == 0 ? "| " : "");
        }
        return b.toString().trim();
    }

    private static void leastAndMost(Check c) {
        for (int n = 1; n <= 6; n++) {
            c.due("32 of " + n, c.x.budget(n, 32), true);
            c.due("33 of " + n, c.x.budget(n, 33), true);
            c.due("1999 of " + n, c.x.budget(n, 1999), true);
            c.due("2000 of " + n, c.x.budget(n, 2000), true);
        }
    }

    private static void anotherBudget(Check c) {
        four(c, 192);
        int[] wrong = {31, 2001, 0, 16, -1, -32, Integer.MIN_VALUE, Integer.MAX_VALUE};
        for (int bytes : wrong) {
            c.due("budget " + bytes, c.x.budget(6, bytes), false);
        }
        c.due("nothing went", c.x.node(6, 2), 192);
        store(c, 11, 20);
        c.due("the old budget holds", c.x.node(6, 2), 192);
    }

    private static void noneOfThem(Check c) {
        int[] none = {0, 7, -1, Integer.MIN_VALUE, Integer.MAX_VALUE};
        for (int n : none) {
            c.due("budget of " + n, c.x.budget(n, 1000), false);
        }
    }

    private static void lookedAtAtOnce(Check c) {
        four(c, 1000);
        use(c, 2);
        use(c, 5);
        use(c, 9);
        c.due("three kept", parts(c), "10 | 2 5 9");
        c.x.budget(6, 288);
        c.due("half is 144: all stay", parts(c), "10 | 2 5 9");
        c.x.budget(6, 287);
        c.due("half is 143: the oldest of kept is new", parts(c), "10 2 | 5 9");
        c.x.budget(6, 191);
        c.due("half is 95, then the oldest of new goes", parts(c), "2 5 | 9");
        c.x.budget(6, 32);
        c.due("none stays", parts(c), "|");
        c.x.budget(6, 2000);
        c.due("nothing comes back", c.x.node(6, 1), 0);
    }

    private static void nodeThatIsDown(Check c) {
        c.x.fail(6);
        c.due("budget", c.x.budget(6, 48), true);
        c.due("another one", c.x.budget(6, 31), false);
        c.x.back(6);
        store(c, 2, 20);
        c.due("48 fit", c.x.node(6, 2), 48);
        store(c, 5, 20);
        c.due("no more than that", c.x.node(6, 2), 48);
    }

    private static void leastBudgetHolds(Check c) {
        c.x.budget(6, 32);
        store(c, 2, 16);
        c.due("one block", c.x.node(6, 2), 32);
        store(c, 5, 17);
        c.due("two blocks are too many: all went", c.x.node(6, 1), 0);
        store(c, 2, 0);
        store(c, 5, 0);
        c.due("two without blocks", c.x.node(6, 1), 2);
        store(c, 9, 0);
        c.due("not three", parts(c), "5 9 |");
    }

    private static void mostBudgetHolds(Check c) {
        c.x.budget(1, 2000);
        int[] paths = {0, 1, 4, 5, 6, 7, 9, 10};
        for (int i = 0; i < 7; i++) {
            c.put("PUT /" + paths[i] + "\nlength: 255\n\n");
            c.get("GET /" + paths[i] + "\n\n");
        }
        c.due("seven of 272 fit in 2000", c.x.node(1, 2), 7 * 272);
        c.put("PUT /" + paths[7] + "\nlength: 80\n\n");
        c.get("GET /" + paths[7] + "\n\n");
        c.due("and one of 96", c.x.node(1, 2), 2000);
        c.x.budget(1, 1999);
        c.due("1999 is too little", c.x.node(1, 1), 7);
    }

    private static void halfOf1000(Check c) {
        store(c, 2, 240);
        store(c, 5, 224);
        store(c, 9, 240);
        use(c, 2);
        use(c, 5);
        c.due("496 are kept", parts(c), "9 | 2 5");
        use(c, 9);
        c.due("752 are not", parts(c), "2 | 5 9");
        c.fresh();
        store(c, 2, 240);
        store(c, 5, 240);
        use(c, 2);
        use(c, 5);
        c.due("512 are not", parts(c), "2 | 5");
    }

    private static void sizes(Check c) {
        int[] lengths = {0, 1, 16, 17, 240, 241, 255};
        int[] due = {16, 32, 32, 48, 256, 272, 272};
        for (int i = 0; i < lengths.length; i++) {
            c.fresh();
            store(c, 2, lengths[i]);
            c.due("size with length " + lengths[i], c.x.node(6, 2), due[i]);
        }
        c.fresh();
        c.put("PUT /2\nlength: 255\n\n");
        c.get("GET /2\nrange: bytes=100-100\n\n");
        c.due("of the blocks that are there", c.x.node(6, 2), 32);
    }

    private static void latestOfNew(Check c) {
        four(c, 1000);
        c.due("as they came", parts(c), "2 5 9 10 |");
        c.get("GET /2\ncache-control: no-cache\n\n");
        c.due("one that comes again", parts(c), "5 9 10 2 |");
    }

    private static void latestOfKept(Check c) {
        four(c, 1000);
        use(c, 9);
        c.due("one", parts(c), "2 5 10 | 9");
        use(c, 2);
        c.due("two", parts(c), "5 10 | 9 2");
        use(c, 9);
        c.due("used again", parts(c), "5 10 | 2 9");
        use(c, 9);
        c.due("the latest stays the latest", parts(c), "5 10 | 2 9");
    }

    private static void keptThatComesAgain(Check c) {
        four(c, 1000);
        use(c, 2);
        use(c, 5);
        c.get("GET /2\ncache-control: no-cache\n\n");
        c.due("of kept, the latest", parts(c), "9 10 | 5 2");
        c.put("PUT /5\nlength: 255\ncache-control: max-age=99\n\n");
        c.get("GET /5\ncache-control: no-cache\n\n");
        c.due("of another version, too", parts(c), "9 10 | 2 5");
        c.due("its size", c.x.node(6, 2), 3 * 48 + 272);
    }

    private static void exactlyHalf(Check c) {
        four(c, 192);
        use(c, 2);
        use(c, 5);
        c.due("96 are not more than 96", parts(c), "9 10 | 2 5");
        use(c, 9);
        c.due("144 are", parts(c), "10 2 | 5 9");
    }

    private static void halfDownwards(Check c) {
        four(c, 193);
        use(c, 2);
        use(c, 5);
        c.due("half of 193 is 96", parts(c), "9 10 | 2 5");
        c.x.budget(6, 194);
        c.due("half of 194 is 97", parts(c), "9 10 | 2 5");
        c.fresh();
        c.x.budget(6, 191);
        store(c, 2, 20);
        store(c, 5, 20);
        use(c, 2);
        use(c, 5);
        c.due("half of 191 is 95", parts(c), "2 | 5");
    }

    private static void severalLeaveKept(Check c) {
        four(c, 400);
        use(c, 2);
        use(c, 5);
        use(c, 9);
        use(c, 10);
        c.due("192 of 200", parts(c), "| 2 5 9 10");
        c.put("PUT /10\nlength: 160\ncache-control: max-age=99\n\n");
        c.get("GET /10\ncache-control: no-cache\n\n");
        c.due("176 alone are left in kept", parts(c), "2 5 9 | 10");
        c.due("nothing went", c.x.node(6, 2), 320);
    }

    private static void usedAndOutAtOnce(Check c) {
        c.x.budget(6, 95);
        store(c, 2, 20);
        use(c, 2);
        c.due("48 are more than 47", parts(c), "2 |");
        c.x.budget(6, 96);
        c.due("new stays new", parts(c), "2 |");
        use(c, 2);
        c.due("48 are not more than 48", parts(c), "| 2");
    }

    private static void exactlyAll(Check c) {
        four(c, 192);
        c.due("192 are not more than 192", parts(c), "2 5 9 10 |");
        four(c, 191);
        c.due("192 are more than 191", parts(c), "5 9 10 |");
    }

    private static void severalGo(Check c) {
        four(c, 192);
        store(c, 11, 112);
        c.due("128 and 48", parts(c), "10 11 |");
        c.due("sizes", c.x.node(6, 2), 176);
        store(c, 2, 160);
        c.due("176 alone", parts(c), "2 |");
    }

    private static void theOneThatJustCame(Check c) {
        four(c, 192);
        store(c, 11, 192);
        c.due("208 are too many: it went as the last one", parts(c), "|");
        c.due("it was answered all the same", c.x.answer(4, 3), 192);
        c.fresh();
        c.x.budget(6, 192);
        store(c, 11, 176);
        c.due("192 are not", parts(c), "11 |");
    }

    private static void keptIsSparedByNew(Check c) {
        four(c, 192);
        use(c, 2);
        use(c, 5);
        store(c, 11, 20);
        c.due("the oldest of new went", parts(c), "10 11 | 2 5");
        store(c, 9, 80);
        c.due("and all of new but the one that came", parts(c), "9 | 2 5");
        store(c, 10, 96);
        c.due("with it, if it is too great", parts(c), "| 2 5");
    }
}
