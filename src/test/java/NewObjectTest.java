/** Promise 1. */
final class NewObjectTest {
    public static void main(String[] args) {
        Due due = new Due("NewObjectTest");
        LeaseNet x = new LeaseNet();
        for (int c = 0; c < 12; c++) {
            due.client("new", x, c, 0, 0, 0, 0, 0, 0, 0);
        }
        for (int a = 1; a <= 1023; a++) {
            due.record("new", new LeaseNet(), a, 0, -1, 0);
        }
        due.is("packets()", x.packets(), 0);
        due.is("time", x.count(0), 0);
        due.is("lost", x.count(1), 0);
        due.is("records", x.count(2), 0);
        due.is("up", x.count(3), 1);
        due.is("free", x.count(4), 0);
        due.fails("an empty tape is broken", IllegalArgumentException.class, () -> x.told(0));
        withoutPools(due);
        twoObjects(due);
        due.end();
    }

    private static void withoutPools(Due due) {
        LeaseNet x = new LeaseNet();
        x.join(0, 0);
        due.is("the server does not answer without a pool", x.run(200), 1);
        Msg.up(1, 5).kind(Msg.DISCOVER).giaddr(513).end().bringTo(x, 16);
        due.is("nor on another subnet", x.packets(), 0);
    }

    private static void twoObjects(Due due) {
        LeaseNet x = new LeaseNet();
        LeaseNet y = new LeaseNet();
        x.pool(0, 2, 9, 50);
        x.join(3, 0);
        x.tick();
        x.type(1, 1);
        x.down(true);
        due.is("objects share nothing: packets", y.packets(), 0);
        due.is("objects share nothing: time", y.count(0), 0);
        due.is("objects share nothing: up", y.count(3), 1);
        due.is("objects share nothing: free", y.count(4), 0);
        due.client("objects share nothing", y, 3, 0, 0, 0, 0, 0, 0, 0);
        due.fails("objects share no tape", IllegalArgumentException.class, () -> y.inject(16));
    }
}
