/** Promise 4: drop. */
public final class P04DropTest {
    public static void main(String[] args) {
        Check c = new Check("promise 4");
        int[] none = {-1, 32, Integer.MIN_VALUE, Integer.MAX_VALUE, 0, 31};
        for (int path : none) {
            c.due("drop " + path, c.x.drop(path), false);
        }
        c.put("PUT /31\n\n");
        c.put("PUT /0\n\n");
        c.due("drop 31", c.x.drop(31), true);
        c.due("drop 31 again", c.x.drop(31), false);
        c.due("drop 0", c.x.drop(0), true);

        c.fresh();
        c.put("PUT /1\nlength: 20\ncache-control: max-age=9\n\n");
        c.put("PUT /2\nlength: 20\n\n");
        c.get("GET /1\n\n");
        c.due("drop 1", c.x.drop(1), true);
        c.due("stores keep what they have", c.x.answer(c.ask("GET /1\n\n"), 4), 1);
        c.due("an entry stays", c.x.entry(5, 1, 0, 0, 0), 1);
        c.due("what is dropped is not there", c.x.answer(c.get("GET /1/1\n\n"), 0), 404);
        c.due("others stay", c.x.answer(c.get("GET /2\n\n"), 0), 200);
        c.x.tick(9);
        c.due("404 from the origin", c.x.answer(c.get("GET /1\n\n"), 0), 404);
        c.due("the entry goes with 404", c.x.entry(5, 1, 0, 0, 0), -1);
        c.due("at the parent, too", c.x.entry(1, 1, 0, 0, 0), -1);
        c.due("a new one", c.put("PUT /1\n\n"), 2);
        c.due("is there", c.x.answer(c.get("GET /1\n\n"), 1), 2);
        c.due("drop the new one", c.x.drop(1), true);
        c.end();
    }
}
