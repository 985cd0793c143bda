/** Promise 8: lose. */
public final class P08LoseTest {
    public static void main(String[] args) {
        Check c = new Check("promise 8");
        c.due("none waits", c.x.lose(0), false);
        c.put("PUT /1\n\n");
        c.put("PUT /2\n\n");
        c.put("PUT /3\n\n");
        int a = c.ask("GET /1\n\n");
        int b = c.ask("GET /2\n\n");
        int d = c.ask("GET /3\n\n");
        int[] none = {-1, 3, Integer.MIN_VALUE, Integer.MAX_VALUE};
        for (int k : none) {
            c.due("lose " + k, c.x.lose(k), false);
        }
        c.due("three wait", c.x.total(0), 3);
        c.due("none is lost", c.x.total(4), 0);
        c.due("lose 1", c.x.lose(1), true);
        c.due("two wait", c.x.total(0), 2);
        c.due("one is lost", c.x.total(4), 1);
        c.due("the first", c.x.message(0, 4), 1);
        c.due("the third", c.x.message(1, 4), 3);
        c.due("the others go on", c.x.settle(), 8);
        c.due("answer to the first", c.x.answer(a, 0), 200);
        c.due("answer to the third", c.x.answer(d, 0), 200);
        c.due("the second waits", c.x.answer(b, 0), 0);
        c.x.tick(10);
        c.due("and fails", c.x.answer(b, 0), 504);
        c.due("lose none", c.x.lose(0), false);
        c.due("still one", c.x.total(4), 1);
        c.end();
    }
}
