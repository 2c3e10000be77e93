import java.util.NoSuchElementException;

/** A client of the document's Terms, with promises 6, 8 and 18: strange, tick, client. */
final class ClientTest {
    private static final int SERVER = Play.SERVER;

    public static void main(String[] args) {
        Due due = new Due("ClientTest");
        wrongInputs(due);
        time(due);
        selectingTries(due);
        requestingTries(due);
        rebootingTries(due);
        rebootingEnds(due);
        offers(due);
        acks(due);
        leases(due);
        lateAck(due);
        strangers(due);
        strangeButBound(due);
        naks(due);
        otherMessages(due);
        renewal(due);
        rebindingByRelay(due);
        renewedInTime(due);
        shortLease(due);
        everyClient(due);
        due.end();
    }

    /** So many ticks pass, and nothing is sent in them. */
    private static void quiet(Due due, String what, LeaseNet x, int n) {
        Play.ticks(x, n);
        due.is(what + ": quiet until " + x.count(0), x.packets(), 0);
    }

    /** With the next tick just this is sent; it is dropped. */
    private static void sends(Due due, String what, LeaseNet x, int place, Msg want) {
        x.tick();
        sent(due, what, x, place, want);
    }

    private static void sent(Due due, String what, LeaseNet x, int place, Msg want) {
        due.is(what + " at " + x.count(0) + ": packets()", x.packets(), 1);
        due.packet(what + " at " + x.count(0), x, 0, place, want);
        Play.clear(x);
    }

    private static Msg ack(int client, int xid, int address, int lease) {
        return Msg.downTo(client, xid).yiaddr(address).kind(Msg.ACK).lease(lease).end();
    }

    private static void wrongInputs(Due due) {
        LeaseNet x = new LeaseNet();
        for (int c : new int[] {-1, 12, Integer.MIN_VALUE, Integer.MAX_VALUE}) {
            due.fails("client(" + c + ", 0)", NoSuchElementException.class, () -> x.client(c, 0));
            due.fails("no such client comes first", NoSuchElementException.class, () -> x.client(c, 7));
        }
        for (int w : new int[] {-1, 7, Integer.MIN_VALUE, Integer.MAX_VALUE}) {
            due.fails("client(0, " + w + ")", IndexOutOfBoundsException.class, () -> x.client(0, w));
        }
        for (int a : new int[] {0, -1, 1024, Integer.MIN_VALUE, Integer.MAX_VALUE}) {
            due.fails("strange(" + a + ", true)", IllegalArgumentException.class, () -> x.strange(a, true));
            due.fails("strange(" + a + ", false)", IllegalArgumentException.class, () -> x.strange(a, false));
        }
        x.strange(1, true);
        x.strange(1023, true);
        x.strange(1023, false);
    }

    private static void time(Due due) {
        LeaseNet x = new LeaseNet();
        for (int t = 1; t <= 200; t++) {
            due.is("tick()", x.tick(), t);
            due.is("count(0)", x.count(0), t);
        }
        due.is("clients that are off send nothing", x.packets(), 0);
        x.down(true);
        due.is("time goes on while the server is down", x.tick(), 201);
    }

    private static void selectingTries(Due due) {
        LeaseNet x = new LeaseNet();
        Play.ticks(x, 2);
        x.join(3, 2);
        sent(due, "try 1", x, 14, Play.discover(3, 1));
        quiet(due, "try 1", x, 3);
        due.client("try 1", x, 3, 1, 0, 0, 0, 1, 1, 2);
        sends(due, "try 2", x, 14, Play.discover(3, 2));
        due.client("try 2", x, 3, 1, 0, 0, 0, 2, 2, 2);
        quiet(due, "try 2", x, 7);
        sends(due, "try 3", x, 14, Play.discover(3, 3));
        due.client("try 3", x, 3, 1, 0, 0, 0, 3, 3, 2);
        for (int xid = 4; xid < 7; xid++) {
            quiet(due, "try 3", x, 15);
            sends(due, "try 3 again", x, 14, Play.discover(3, xid));
            due.client("stays in try 3", x, 3, 1, 0, 0, 0, xid, 3, 2);
        }
    }

    private static void requestingTries(Due due) {
        LeaseNet x = Play.requesting(3, 1, 0x70000001, -7);
        quiet(due, "try 1", x, 3);
        due.client("try 1", x, 3, 2, 0, 0, 0, 2, 1, 1);
        sends(due, "try 2", x, 13, Msg.up(3, 3).kind(Msg.REQUEST).wanted(0x70000001).server(-7).end());
        due.client("try 2", x, 3, 2, 0, 0, 0, 3, 2, 1);
        quiet(due, "try 2", x, 7);
        sends(due, "try 3", x, 13, Msg.up(3, 4).kind(Msg.REQUEST).wanted(0x70000001).server(-7).end());
        due.client("try 3", x, 3, 2, 0, 0, 0, 4, 3, 1);
        quiet(due, "try 3", x, 15);
        sends(due, "behind try 3 it begins", x, 13, Play.discover(3, 5));
        due.client("behind try 3 it begins", x, 3, 1, 0, 0, 0, 5, 1, 1);
    }

    private static void rebootingTries(Due due) {
        LeaseNet x = Play.bound(3, 1, 300, 100);
        Play.ticks(x, 10);
        x.off(3);
        x.join(3, 0);
        Msg want = Msg.up(3, 3).kind(Msg.REQUEST).wanted(300).end();
        sent(due, "try 1", x, SERVER, want);
        quiet(due, "try 1", x, 3);
        sends(due, "try 2", x, SERVER, Msg.up(3, 4).kind(Msg.REQUEST).wanted(300).end());
        quiet(due, "try 2", x, 7);
        sends(due, "try 3", x, SERVER, Msg.up(3, 5).kind(Msg.REQUEST).wanted(300).end());
        due.client("try 3", x, 3, 6, 300, 100, 0, 5, 3, 0);
        quiet(due, "try 3", x, 15);
        due.client("try 3", x, 3, 6, 300, 100, 0, 5, 3, 0);
        quiet(due, "behind try 3", x, 1);
        due.client("bound as before", x, 3, 3, 300, 100, 300, 5, 3, 0);
        due.is("time", x.count(0), 38);
        quiet(due, "bound", x, 11);
        sends(due, "its renewal is as it was", x, SERVER, Msg.up(3, 6).ciaddr(300).kind(Msg.REQUEST).end());
        due.client("renewing", x, 3, 4, 300, 100, 300, 6, 3, 0);
        while (x.count(0) < 87) {
            x.tick();
        }
        Play.clear(x);
        due.client("renewing still", x, 3, 4);
        int xid = x.client(3, 4);
        sends(due, "its rebinding time is as it was", x, SERVER,
                Msg.up(3, xid + 1).ciaddr(300).kind(Msg.REQUEST).end());
        due.client("rebinding", x, 3, 5);
    }

    private static void rebootingEnds(Due due) {
        LeaseNet x = Play.bound(3, 0, 30, 20);
        x.off(3);
        Play.ticks(x, 15);
        x.join(3, 0);
        sent(due, "again", x, SERVER, Msg.up(3, 3).kind(Msg.REQUEST).wanted(30).end());
        quiet(due, "rebooting", x, 3);
        sends(due, "try 2", x, SERVER, Msg.up(3, 4).kind(Msg.REQUEST).wanted(30).end());
        due.client("rebooting", x, 3, 6, 30, 20, 0, 4, 2, 0);
        sends(due, "its end comes first", x, SERVER, Play.discover(3, 5));
        due.client("begins", x, 3, 1, 0, 0, 0, 5, 1, 0);
    }

    private static void offers(Due due) {
        LeaseNet x = new LeaseNet();
        x.join(3, 3);
        x.drop(0);
        Msg.downTo(3, 1).kind(Msg.OFFER).server(1).end().bringTo(x, 3);
        Msg.downTo(3, 1).yiaddr(9).kind(Msg.OFFER).end().bringTo(x, 3);
        Msg.downTo(3, 1).yiaddr(9).kind(Msg.OFFER).server(0).end().bringTo(x, 3);
        Msg.downTo(3, 2).yiaddr(9).kind(Msg.OFFER).server(1).end().bringTo(x, 3);
        Msg.downTo(3, 0).yiaddr(9).kind(Msg.OFFER).server(1).end().bringTo(x, 3);
        Msg.downTo(4, 1).yiaddr(9).kind(Msg.OFFER).server(1).end().bringTo(x, 3);
        Msg.downTo(3, 1).op(1).yiaddr(9).kind(Msg.OFFER).server(1).end().bringTo(x, 3);
        ack(3, 1, 9, 50).bringTo(x, 3);
        Msg.downTo(3, 1).kind(Msg.NAK).server(1).end().bringTo(x, 3);
        due.client("none of these counts", x, 3, 1, 0, 0, 0, 1, 1, 3);
        due.is("packets()", x.packets(), 0);
        Play.ticks(x, 4);
        x.drop(0);
        Msg.downTo(3, 1).yiaddr(9).kind(Msg.OFFER).server(1).end().bringTo(x, 3);
        due.client("the xid of its first try is not its last", x, 3, 1, 0, 0, 0, 2, 2, 3);
        Msg.downTo(3, 2).yiaddr(9).kind(Msg.OFFER).server(77).end().bringTo(x, 3);
        due.client("requesting", x, 3, 2, 0, 0, 0, 3, 1, 3);
        sent(due, "requesting", x, 15, Msg.up(3, 3).kind(Msg.REQUEST).wanted(9).server(77).end());
        Msg.downTo(3, 3).yiaddr(10).kind(Msg.OFFER).server(77).end().bringTo(x, 3);
        due.client("one that is requesting hears no offer", x, 3, 2, 0, 0, 0, 3, 1, 3);
        quiet(due, "nor sends", x, 3);
    }

    private static void acks(Due due) {
        LeaseNet x = Play.requesting(3, 0, 30, 1);
        x.tick();
        ack(3, 1, 30, 50).bringTo(x, 3);
        ack(4, 2, 30, 50).bringTo(x, 3);
        ack(3, 2, 0, 50).bringTo(x, 3);
        ack(3, 2, 30, 0).bringTo(x, 3);
        ack(3, 2, 30, -1).bringTo(x, 3);
        ack(3, 2, 30, Integer.MIN_VALUE).bringTo(x, 3);
        Msg.downTo(3, 2).yiaddr(30).kind(Msg.ACK).end().bringTo(x, 3);
        ack(3, 2, 30, 50).op(1).bringTo(x, 3);
        due.client("none of these counts", x, 3, 2, 0, 0, 0, 2, 1, 0);
        ack(3, 2, 31, 50).bringTo(x, 3);
        due.client("bound, to what it was given", x, 3, 3, 31, 50, 31, 2, 1, 0);
        due.is("packets()", x.packets(), 0);
        ack(3, 2, 32, 60).bringTo(x, 3);
        Msg.downTo(3, 2).kind(Msg.NAK).server(1).end().bringTo(x, 3);
        due.client("one that is bound hears none", x, 3, 3, 31, 50, 31, 2, 1, 0);
        LeaseNet y = Play.requesting(3, 0, 30, 1);
        ack(3, 2, -5, 50).bringTo(y, 3);
        due.client("any address but 0", y, 3, 3, -5, 50, -5, 2, 1, 0);
        LeaseNet z = Play.bound(3, 0, 30, 50);
        z.off(3);
        z.join(3, 0);
        z.drop(0);
        z.tick();
        ack(3, 3, 40, 70).bringTo(z, 3);
        due.client("rebooting, bound", z, 3, 3, 40, 70, 40, 3, 1, 0);
    }

    private static void leases(Due due) {
        LeaseNet x = Play.bound(0, 0, 30, 10000);
        due.client("10000", x, 0, 3, 30, 10000, 30);
        x = Play.bound(0, 0, 30, 10001);
        due.client("10000 of more", x, 0, 3, 30, 10000, 30);
        x = Play.bound(0, 0, 30, Integer.MAX_VALUE);
        due.client("10000 of the most", x, 0, 3, 30, 10000, 30);
        x = Play.bound(0, 0, 30, 9999);
        due.client("9999", x, 0, 3, 30, 9999, 30);
        x = Play.requesting(0, 0, 30, 1);
        Play.ticks(x, 4);
        x.drop(0);
        ack(0, 3, 30, 10).bringTo(x, 0);
        due.client("from SENT on", x, 0, 3, 30, 14, 30, 3, 2, 0);
    }

    private static void lateAck(Due due) {
        LeaseNet x = Play.requesting(0, 0, 30, 1);
        Play.ticks(x, 3);
        ack(0, 2, 30, 3).bringTo(x, 0);
        due.client("SENT and the lease is not later than now", x, 0, 2, 0, 0, 0, 2, 1, 0);
        x.strange(30, true);
        ack(0, 2, 30, 3).bringTo(x, 0);
        due.client("even a strange one is not looked at then", x, 0, 2, 0, 0, 0, 2, 1, 0);
        x.strange(30, false);
        ack(0, 2, 30, 4).bringTo(x, 0);
        due.client("later by 1", x, 0, 3, 30, 4, 30, 2, 1, 0);
        sends(due, "and at its end it begins", x, SERVER, Play.discover(0, 3));
        due.client("begins", x, 0, 1, 0, 0, 0, 3, 1, 0);
    }

    private static void strangers(Due due) {
        LeaseNet x = Play.requesting(5, 2, 520, 1);
        x.strange(520, true);
        x.strange(521, true);
        x.strange(521, false);
        x.tick();
        ack(5, 2, 520, 50).bringTo(x, 5);
        due.client("waiting", x, 5, 7, 0, 0, 0, 3, 1, 2);
        sent(due, "it declines", x, 14, Msg.up(5, 3).kind(Msg.DECLINE).wanted(520).end());
        ack(5, 3, 521, 50).bringTo(x, 5);
        Msg.downTo(5, 3).kind(Msg.NAK).end().bringTo(x, 5);
        Msg.downTo(5, 3).yiaddr(9).kind(Msg.OFFER).server(1).end().bringTo(x, 5);
        due.client("one that waits hears nothing", x, 5, 7, 0, 0, 0, 3, 1, 2);
        quiet(due, "waiting", x, 9);
        due.client("waiting still", x, 5, 7, 0, 0, 0, 3, 1, 2);
        sends(due, "10 ticks ago", x, 14, Play.discover(5, 4));
        due.client("begins", x, 5, 1, 0, 0, 0, 4, 1, 2);
        Msg.downTo(5, 4).yiaddr(521).kind(Msg.OFFER).server(1).end().bringTo(x, 5);
        x.drop(0);
        ack(5, 5, 521, 50).bringTo(x, 5);
        due.client("not strange any more", x, 5, 3, 521, 61, 521, 5, 1, 2);
        x.off(5);
        x.strange(521, true);
        x.join(5, 0);
        x.drop(0);
        ack(5, 6, 521, 50).bringTo(x, 5);
        due.client("rebooting, strange", x, 5, 7, 0, 0, 0, 7, 1, 0);
        sent(due, "rebooting, strange", x, SERVER, Msg.up(5, 7).kind(Msg.DECLINE).wanted(521).end());
        x.off(5);
        x.join(5, 0);
        due.client("it has no address to be again with", x, 5, 1, 0, 0, 0, 8, 1, 0);
        edgesOfStrange(due);
    }

    private static void edgesOfStrange(Due due) {
        for (int a : new int[] {1, 1023, 255, 256}) {
            LeaseNet x = Play.requesting(0, 0, a, 1);
            x.strange(a, true);
            ack(0, 2, a, 50).bringTo(x, 0);
            due.client("strange " + a, x, 0, 7, 0, 0, 0, 3, 1, 0);
        }
        for (int a : new int[] {1024, -1, Integer.MIN_VALUE, Integer.MAX_VALUE, 256 + 1023}) {
            LeaseNet x = Play.requesting(0, 0, a, 1);
            x.strange(1023, true);
            x.strange(1, true);
            ack(0, 2, a, 50).bringTo(x, 0);
            due.client("never strange " + a, x, 0, 3, a, 50, a, 2, 1, 0);
        }
    }

    private static void strangeButBound(Due due) {
        LeaseNet x = Play.bound(0, 0, 30, 40);
        x.strange(30, true);
        Play.ticks(x, 20);
        x.drop(0);
        ack(0, 3, 30, 40).bringTo(x, 0);
        due.client("one that renews does not look", x, 0, 3, 30, 60, 30, 3, 1, 0);
        Play.ticks(x, 35);
        Play.clear(x);
        due.client("rebinding at 55", x, 0, 5, 30, 60, 30);
        x.strange(31, true);
        ack(0, x.client(0, 4), 31, 40).bringTo(x, 0);
        due.client("nor one that rebinds", x, 0, 3, 31, 95, 31);
    }

    private static void naks(Due due) {
        Msg nak = Msg.downTo(0, 2).kind(Msg.NAK).end();
        LeaseNet x = Play.requesting(0, 0, 30, 1);
        Play.ticks(x, 1);
        nak.bringTo(x, 0);
        sent(due, "requesting", x, SERVER, Play.discover(0, 3));
        due.client("requesting", x, 0, 1, 0, 0, 0, 3, 1, 0);
        for (int time : new int[] {40, 70}) {
            LeaseNet y = Play.bound(0, 1, 300, 80);
            Play.ticks(y, time);
            Play.clear(y);
            int xid = y.client(0, 4);
            due.client("renewing, rebinding", y, 0, time == 40 ? 4 : 5, 300, 80, 300);
            Msg.downTo(0, xid - 1).kind(Msg.NAK).server(1).end().bringTo(y, 0);
            due.client("another xid", y, 0, time == 40 ? 4 : 5, 300, 80, 300);
            Msg.downTo(0, xid).kind(Msg.NAK).server(1).end().bringTo(y, 0);
            sent(due, "begins", y, 13, Play.discover(0, xid + 1));
            due.client("begins", y, 0, 1, 0, 0, 0, xid + 1, 1, 1);
        }
        LeaseNet z = Play.bound(0, 1, 300, 80);
        z.off(0);
        z.join(0, 2);
        z.drop(0);
        Msg.downTo(0, 3).kind(Msg.NAK).end().bringTo(z, 0);
        sent(due, "rebooting", z, 14, Play.discover(0, 4));
        due.client("rebooting", z, 0, 1, 0, 0, 0, 4, 1, 2);
    }

    private static void otherMessages(Due due) {
        LeaseNet x = Play.requesting(0, 0, 30, 1);
        for (int kind : new int[] {0, 1, 2, 3, 4, 7, 8, 255}) {
            Msg.downTo(0, 2).yiaddr(30).kind(kind).lease(50).server(1).end().bringTo(x, 0);
        }
        Msg.downTo(0, 2).yiaddr(30).lease(50).server(1).end().bringTo(x, 0);
        due.client("others are nothing to it", x, 0, 2, 0, 0, 0, 2, 1, 0);
        due.is("packets()", x.packets(), 0);
        LeaseNet y = new LeaseNet();
        Msg.downTo(0, 0).yiaddr(30).kind(Msg.OFFER).server(1).end().bringTo(y, 0);
        ack(0, 0, 30, 50).bringTo(y, 0);
        Msg.downTo(0, 0).kind(Msg.NAK).end().bringTo(y, 0);
        due.client("one that is off hears nothing", y, 0, 0, 0, 0, 0, 0, 0, 0);
    }

    private static Msg renew(int xid, int address) {
        return Msg.up(2, xid).ciaddr(address).kind(Msg.REQUEST).end();
    }

    private static void renewal(Due due) {
        LeaseNet x = Play.bound(2, 1, 300, 101);
        quiet(due, "bound", x, 49);
        due.client("bound", x, 2, 3, 300, 101, 300, 2, 1, 1);
        sends(due, "renewal, lease / 2", x, SERVER, renew(3, 300));
        due.client("renewing", x, 2, 4, 300, 101, 300, 3, 1, 1);
        // The rebinding time is 101 - 12 = 89: half of 39, upward, is 20; of 19, 10; of 9, 5; of 4, 2; of 2, 2.
        quiet(due, "half of 39", x, 19);
        sends(due, "at 70", x, SERVER, renew(4, 300));
        quiet(due, "half of 19", x, 9);
        sends(due, "at 80", x, SERVER, renew(5, 300));
        quiet(due, "half of 9", x, 4);
        sends(due, "at 85", x, SERVER, renew(6, 300));
        quiet(due, "half of 4", x, 1);
        sends(due, "at 87", x, SERVER, renew(7, 300));
        quiet(due, "2 at least", x, 1);
        due.client("renewing still", x, 2, 4);
        sends(due, "at 89 it rebinds", x, 13, renew(8, 300));
        due.client("rebinding", x, 2, 5, 300, 101, 300, 8, 1, 1);
        // The end is 101: half of 12 is 6; of 6, 3; of 3, upward, 2; of 1, 2 at least.
        quiet(due, "half of 12", x, 5);
        sends(due, "at 95", x, 13, renew(9, 300));
        quiet(due, "half of 6", x, 2);
        sends(due, "at 98", x, 13, renew(10, 300));
        quiet(due, "half of 3", x, 1);
        sends(due, "at 100", x, 13, renew(11, 300));
        due.client("rebinding still", x, 2, 5, 300, 101, 300, 11, 1, 1);
        sends(due, "at its end it begins", x, 13, Play.discover(2, 12));
        due.client("begins", x, 2, 1, 0, 0, 0, 12, 1, 1);
    }

    private static void rebindingByRelay(Due due) {
        LeaseNet x = new LeaseNet();
        x.pool(1, 10, 20, 80);
        x.join(2, 1);
        x.run(200);
        x.down(true);
        Play.ticks(x, 69);
        x.run(200);
        due.client("renewing in vain", x, 2, 4, 266, 80, 266);
        x.down(false);
        x.tick();
        int xid = x.client(2, 4);
        due.packet("broadcast", x, 0, 13, renew(xid, 266));
        x.carry(0);
        due.packet("by the relay", x, 0, SERVER, renew(xid, 266).hops(1).giaddr(257));
        x.carry(0);
        due.packet("back by the relay", x, 0, 13,
                Msg.downTo(2, xid).yiaddr(266).giaddr(257).kind(Msg.ACK).lease(80).server(1).end());
        x.run(200);
        due.client("bound anew", x, 2, 3, 266, 150, 266, xid, 1, 1);
        due.record("leased anew", x, 266, 2, 2, 150);
    }

    private static void renewedInTime(Due due) {
        LeaseNet x = new LeaseNet();
        x.pool(1, 10, 20, 40);
        x.join(2, 1);
        due.is("by the relay, each way, twice", x.run(200), 8);
        Play.ticks(x, 20);
        due.is("without the relay", x.run(200), 2);
        due.client("renewed", x, 2, 3, 266, 60, 266, 3, 1, 1);
        Play.ticks(x, 19);
        due.is("quiet", x.packets(), 0);
        x.tick();
        due.is("its next renewal", x.packets(), 1);
    }

    private static void shortLease(Due due) {
        LeaseNet x = Play.bound(2, 0, 30, 1);
        due.client("a lease of 1", x, 2, 3, 30, 1, 30);
        sends(due, "its end", x, SERVER, Play.discover(2, 3));
        x = Play.bound(2, 0, 30, 2);
        sends(due, "lease / 2 of 2", x, SERVER, renew(3, 30));
        sends(due, "its end", x, SERVER, Play.discover(2, 4));
        x = Play.bound(2, 0, 30, 9);
        quiet(due, "lease / 2 of 9", x, 3);
        sends(due, "at 4", x, SERVER, renew(3, 30));
        quiet(due, "half of 4", x, 1);
        sends(due, "at 6", x, SERVER, renew(4, 30));
        quiet(due, "2 at least", x, 1);
        due.client("renewing at 7", x, 2, 4);
        sends(due, "9 - 9 / 8 is 8", x, SERVER, renew(5, 30));
        due.client("rebinding at 8", x, 2, 5);
        sends(due, "its end", x, SERVER, Play.discover(2, 6));
        lateRenewal(due);
    }

    private static void lateRenewal(Due due) {
        LeaseNet x = Play.requesting(2, 0, 30, 1);
        Play.ticks(x, 3);
        ack(2, 2, 30, 5).bringTo(x, 2);
        due.client("its renewal is past when it is bound", x, 2, 3, 30, 5, 30);
        sends(due, "so that it renews with the next tick", x, SERVER, renew(3, 30));
        due.client("renewing", x, 2, 4, 30, 5, 30);
    }

    private static void everyClient(Due due) {
        LeaseNet x = new LeaseNet();
        x.pool(0, 2, 100, 50);
        for (int c = 11; c >= 0; c--) {
            x.join(c, 0);
        }
        x.run(200);
        for (int c = 0; c < 12; c++) {
            due.client("bound", x, c, 3, 13 - c, 50, 13 - c, 2, 1, 0);
            due.record("leased", x, 13 - c, 2, c, 50);
        }
        Play.ticks(x, 25);
        due.is("all renew", x.packets(), 12);
        for (int c = 0; c < 12; c++) {
            due.packet("in the order of clients", x, c, SERVER, Msg.up(c, 3).ciaddr(13 - c).kind(Msg.REQUEST).end());
        }
    }
}
