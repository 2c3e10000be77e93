import java.util.NoSuchElementException;

/** Promise 2. */
final class PoolTest {
    public static void main(String[] args) {
        Due due = new Due("PoolTest");
        wrongInputs(due);
        edges(due);
        fromNowOn(due);
        due.end();
    }

    private static void wrongInputs(Due due) {
        LeaseNet x = new LeaseNet();
        int[] subnets = {-1, 4, Integer.MIN_VALUE, Integer.MAX_VALUE};
        for (int s : subnets) {
            due.fails("no subnet " + s, NoSuchElementException.class, () -> x.pool(s, 2, 3, 8));
            due.fails("no subnet comes first " + s, NoSuchElementException.class, () -> x.pool(s, 1, 0, 0));
        }
        int[][] bad = {
            {1, 3, 8}, {0, 3, 8}, {-5, 3, 8}, {3, 2, 8}, {2, 251, 8}, {251, 251, 8}, {2, 3, 7}, {2, 3, 10001},
            {2, 3, -8}, {2, 3, Integer.MAX_VALUE}, {2, Integer.MAX_VALUE, 8}, {Integer.MIN_VALUE, 9, 8}, {2, 1, 8},
        };
        for (int[] b : bad) {
            due.fails("pool(3, " + b[0] + ", " + b[1] + ", " + b[2] + ")", IllegalArgumentException.class,
                    () -> x.pool(3, b[0], b[1], b[2]));
        }
        due.is("nothing was changed", x.count(4), 0);
    }

    private static void edges(Due due) {
        LeaseNet x = new LeaseNet();
        x.pool(0, 2, 250, 8);
        due.is("249 hosts", x.count(4), 249);
        x.pool(3, 250, 250, 10000);
        due.is("and one", x.count(4), 250);
        x.pool(0, 2, 2, 8);
        due.is("a pool anew takes the old one's stead", x.count(4), 2);
        x.pool(2, 7, 8, 9);
        due.is("and two", x.count(4), 4);
    }

    private static void fromNowOn(Due due) {
        LeaseNet x = new LeaseNet();
        x.pool(0, 2, 9, 20);
        x.join(0, 0);
        x.run(200);
        due.record("leased", x, 2, 2, 0, 20);
        x.pool(0, 5, 6, 30);
        due.record("records stay", x, 2, 2, 0, 20);
        due.is("records", x.count(2), 1);
        due.is("free", x.count(4), 2);
        x.join(1, 0);
        x.run(200);
        due.client("from the new pool", x, 1, 3, 5, 30, 5);
        Msg.up(0, 3).kind(Msg.REQUEST).ciaddr(2).end().bringTo(x, 16);
        due.packet("what the pool lost is refused", x, 0, 0, Msg.downTo(0, 3).kind(Msg.NAK).server(1).end());
        x.drop(0);
        x.pool(0, 2, 9, 40);
        Msg.up(0, 4).kind(Msg.REQUEST).ciaddr(2).end().bringTo(x, 16);
        due.packet("and granted again with the lease of now", x, 0, 0,
                Msg.downTo(0, 4).yiaddr(2).kind(Msg.ACK).lease(40).server(1).end());
        due.record("and lengthened", x, 2, 2, 0, 40);
    }
}
