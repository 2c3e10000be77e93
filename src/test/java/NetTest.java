import java.util.NoSuchElementException;

/** Promises 9 to 14: the packets under way, and relays. */
final class NetTest {
    public static void main(String[] args) {
        Due due = new Due("NetTest");
        wrongInputs(due);
        order(due);
        carry(due);
        twice(due);
        drop(due);
        run(due);
        full(due);
        relayUp(due);
        relayDown(due);
        brokenOnes(due);
        due.end();
    }

    private static LeaseNet three() {
        LeaseNet x = new LeaseNet();
        x.join(0, 1);
        x.join(1, 2);
        x.join(2, 3);
        return x;
    }

    private static void wrongInputs(Due due) {
        LeaseNet x = three();
        for (int k : new int[] {-1, 3, 60, Integer.MIN_VALUE, Integer.MAX_VALUE}) {
            due.fails("packet(" + k + ", 0)", NoSuchElementException.class, () -> x.packet(k, 0));
            due.fails("packet comes first", NoSuchElementException.class, () -> x.packet(k, -9));
            due.fails("carry(" + k + ")", NoSuchElementException.class, () -> x.carry(k));
            due.fails("twice(" + k + ")", NoSuchElementException.class, () -> x.twice(k));
            due.fails("drop(" + k + ")", NoSuchElementException.class, () -> x.drop(k));
        }
        for (int i : new int[] {-3, 23, 60, Integer.MIN_VALUE, Integer.MAX_VALUE}) {
            due.fails("packet(0, " + i + ")", IndexOutOfBoundsException.class, () -> x.packet(0, i));
        }
        for (int n : new int[] {-1, 201, Integer.MIN_VALUE, Integer.MAX_VALUE}) {
            due.fails("run(" + n + ")", IllegalArgumentException.class, () -> x.run(n));
        }
        due.is("nothing was changed", x.packets(), 3);
    }

    private static void order(Due due) {
        LeaseNet x = three();
        for (int k = 0; k < 3; k++) {
            due.packet("in the order in which they were sent", x, k, 13 + k, Msg.up(k, 1).kind(1).end());
        }
        Msg.typeOn(x, 200);
        x.inject(11);
        due.packet("an injected one is the last", x, 3, 11, new int[] {200});
        due.is("packets()", x.packets(), 4);
    }

    private static void carry(Due due) {
        LeaseNet x = three();
        due.is("carry(1)", x.carry(1), 14);
        due.is("packets()", x.packets(), 3);
        due.packet("first stays", x, 0, 13, Msg.up(0, 1).kind(1).end());
        due.packet("third moves up", x, 1, 15, Msg.up(2, 1).kind(1).end());
        due.packet("the relay's comes last", x, 2, 16, Msg.up(1, 1).hops(1).giaddr(513).kind(1).end());
        due.is("carry(2)", x.carry(2), 16);
        due.is("packets()", x.packets(), 2);
    }

    private static void twice(Due due) {
        LeaseNet x = three();
        x.twice(1);
        due.is("packets()", x.packets(), 4);
        due.packet("it is under way still", x, 1, 14, Msg.up(1, 1).kind(1).end());
        due.packet("and came", x, 3, 16, Msg.up(1, 1).hops(1).giaddr(513).kind(1).end());
        due.is("carry(1)", x.carry(1), 14);
        due.packet("again", x, 3, 16, Msg.up(1, 1).hops(1).giaddr(513).kind(1).end());
        LeaseNet y = new LeaseNet();
        y.pool(0, 2, 9, 20);
        y.join(0, 0);
        y.twice(0);
        y.twice(0);
        y.carry(0);
        due.is("three offers", y.packets(), 3);
        due.is("of one address", y.count(2), 1);
        y.run(200);
        due.client("bound once", y, 0, 3, 2, 20, 2, 2, 1, 0);
    }

    private static void drop(Due due) {
        LeaseNet x = three();
        x.drop(1);
        due.is("packets()", x.packets(), 2);
        due.packet("first", x, 0, 13, Msg.up(0, 1).kind(1).end());
        due.packet("second", x, 1, 15, Msg.up(2, 1).kind(1).end());
        due.is("dropped is not lost", x.count(1), 0);
        x.drop(1);
        x.drop(0);
        due.is("packets()", x.packets(), 0);
        x.join(3, 0);
        due.packet("what was dropped leaves nothing", x, 0, 16, Msg.up(3, 1).kind(1).end());
    }

    private static void run(Due due) {
        LeaseNet x = three();
        due.is("run(0)", x.run(0), 0);
        due.is("packets()", x.packets(), 3);
        due.is("run(2)", x.run(2), 2);
        due.packet("the third is the first now", x, 0, 15, Msg.up(2, 1).kind(1).end());
        due.is("run(200)", x.run(200), 4);
        due.is("packets()", x.packets(), 0);
        due.is("run(200) of none", x.run(200), 0);
    }

    private static void full(Due due) {
        LeaseNet x = new LeaseNet();
        x.pool(0, 2, 9, 20);
        for (int i = 0; i < 60; i++) {
            x.type(i, 1);
            x.inject(0);
        }
        due.is("60", x.packets(), 60);
        due.is("none lost", x.count(1), 0);
        x.join(5, 0);
        due.is("60 still", x.packets(), 60);
        due.is("one lost", x.count(1), 1);
        due.client("it knows nothing of that", x, 5, 1, 0, 0, 0, 1, 1, 0);
        x.type(7, 1);
        x.inject(16);
        due.is("an injected one is lost too", x.count(1), 2);
        due.fails("and its tape is taken", IllegalArgumentException.class, () -> x.inject(16));
        for (int k = 0; k < 60; k++) {
            due.packet("those before are as they were", x, k, 0, new int[] {k});
        }
        x.drop(30);
        Msg.up(6, 1).kind(1).end().injectTo(x, 16);
        x.twice(59);
        due.is("an answer to one that is under way still is lost", x.count(1), 3);
        due.record("but it was looked at", x, 2, 1, 6, 8);
        due.is("carry(59)", x.carry(59), 16);
        due.is("one that is carried goes first", x.count(1), 3);
        due.packet("so that there is room", x, 59, 6, Msg.downTo(6, 1).yiaddr(2).kind(2).lease(20).server(1).end());
        for (int i = 0; i < 4; i++) {
            x.tick();
        }
        due.is("a client's later try is lost too", x.count(1), 4);
        due.client("try 2", x, 5, 1, 0, 0, 0, 2, 2, 0);
    }

    private static void relayUp(Due due) {
        for (int s = 1; s <= 3; s++) {
            LeaseNet x = new LeaseNet();
            Msg.up(200, 77).hops(3).ciaddr(9).yiaddr(8).kind(99).raw(0, 7, 2, 5, 5).end().raw(1, 2, 3)
                    .bringTo(x, 12 + s);
            due.packet("all bytes go on, but for hops and giaddr", x, 0, 16, Msg.up(200, 77).hops(4).ciaddr(9).yiaddr(8)
                    .giaddr(256 * s + 1).kind(99).raw(0, 7, 2, 5, 5).end().raw(1, 2, 3));
            x.drop(0);
            Msg.up(1, -1).giaddr(0x01020304).end().bringTo(x, 12 + s);
            due.packet("a giaddr that is there stays", x, 0, 16, Msg.up(1, -1).hops(1).giaddr(0x01020304).end());
            x.drop(0);
            Msg.up(1, 1).hops(4).end().bringTo(x, 12 + s);
            Msg.up(1, 1).hops(5).end().bringTo(x, 12 + s);
            Msg.up(1, 1).hops(255).end().bringTo(x, 12 + s);
            due.is("hops from 4 on", x.packets(), 0);
        }
    }

    private static void relayDown(Due due) {
        for (int s = 1; s <= 3; s++) {
            LeaseNet x = new LeaseNet();
            Msg back = Msg.downTo(11, 5).hops(9).giaddr(0).yiaddr(3).raw(8, 1, 1).end().raw(4);
            back.bringTo(x, 12 + s);
            due.packet("op 2 goes on as it is", x, 0, 11, back);
            x.drop(0);
            Msg.downTo(12, 5).end().bringTo(x, 12 + s);
            Msg.downTo(255, 5).end().bringTo(x, 12 + s);
            due.is("no such client", x.packets(), 0);
            Msg.downTo(0, 5).end().bringTo(x, 12 + s);
            due.packet("client 0", x, 0, 0, Msg.downTo(0, 5).end());
        }
    }

    private static void brokenOnes(Due due) {
        LeaseNet x = new LeaseNet();
        x.pool(0, 2, 9, 20);
        x.join(0, 0);
        x.drop(0);
        Msg.up(1, 1).kind(1).bringTo(x, 16);
        Msg.up(1, 1).kind(1).bringTo(x, 13);
        Msg.up(1, 1).op(0).kind(1).end().bringTo(x, 16);
        Msg.up(1, 1).op(3).kind(1).end().bringTo(x, 14);
        Msg.downTo(0, 1).yiaddr(2).kind(2).server(1).bringTo(x, 0);
        Msg.downTo(0, 1).yiaddr(2).kind(2).server(1).raw(50, 3, 0, 0, 1).end().bringTo(x, 0);
        due.is("broken ones are not looked at", x.packets(), 0);
        due.client("nor by a client", x, 0, 1, 0, 0, 0, 1, 1, 0);
        Msg.downTo(0, 1).yiaddr(2).kind(2).server(1).end().bringTo(x, 0);
        due.client("a whole one is", x, 0, 2, 0, 0, 0, 2, 1, 0);
    }
}
