/** Promise 20: total. */
public final class P20TotalTest {
    public static void main(String[] args) {
        Check c = new Check("promise 20");
        int[] wrong = {-1, 7, Integer.MIN_VALUE, Integer.MAX_VALUE};
        for (int what : wrong) {
            c.due("what " + what, c.x.total(what), -1);
        }
        c.put("PUT /1\n\n");
        c.ask("GET /1\n\n");
        c.ask("GET /2\n\n");
        c.ask("GET /3\n\n");
        c.ask("nonsense");
        c.due("messages", c.x.total(0), 3);
        c.due("come", c.x.total(2), 4);
        c.due("answered", c.x.total(3), 1);
        c.x.lose(2);
        c.due("lost", c.x.total(4), 1);
        c.x.settle();
        c.due("answered then", c.x.total(3), 3);
        c.x.tick(10);
        c.due("answered by a tick", c.x.total(3), 4);
        c.due("clock", c.x.total(6), 10);
        acks(c);
        c.end();
    }

    private static void acks(Check c) {
        c.fresh();
        c.x.purge(0, 1);
        c.due("order", c.x.total(1), 1);
        c.x.deliver(0);
        c.x.deliver(0);
        c.due("not before they come", c.x.total(5), 0);
        c.x.deliver(4);
        c.due("one", c.x.total(5), 1);
        c.x.purge(0, 2);
        c.due("order", c.x.total(1), 2);
        c.due("none of the new one", c.x.total(5), 0);
        c.x.settle();
        c.due("just those of the latest", c.x.total(5), 6);
        c.x.fail(6);
        c.x.purge(0, 3);
        c.x.lose(0);
        c.x.settle();
        c.due("four of five", c.x.total(5), 4);
        c.due("a wrong one changes nothing", c.x.purge(0, 32), -1);
        c.due("acks stay", c.x.total(5), 4);
        c.due("order stays", c.x.total(1), 3);
    }
}
