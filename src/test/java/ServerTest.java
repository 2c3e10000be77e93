/** The server of the document's Terms, with promises 7, 19 and 20: down, record, count. */
final class ServerTest {
    private static final int SERVER = Play.SERVER;

    public static void main(String[] args) {
        Due due = new Due("ServerTest");
        wrongInputs(due);
        down(due);
        notLookedAt(due);
        xids(due);
        subnets(due);
        discoverOwn(due);
        discoverWanted(due);
        discoverFresh(due);
        discoverOldest(due);
        discoverLeased(due);
        requestOfThisServer(due);
        requestOfAnotherServer(due);
        requestWithoutServer(due);
        longerLeaseStays(due);
        decline(due);
        release(due);
        others(due);
        counts(due);
        due.end();
    }

    private static void discover(LeaseNet x, int client, int xid) {
        Msg.up(client, xid).kind(Msg.DISCOVER).end().bringTo(x, SERVER);
    }

    /** The one packet under way is this answer; it is dropped. */
    private static void answer(Due due, String what, LeaseNet x, int place, Msg want) {
        due.is(what + ": packets()", x.packets(), 1);
        due.packet(what, x, 0, place, want);
        Play.clear(x);
    }

    private static void nothing(Due due, String what, LeaseNet x) {
        due.is(what + ": packets()", x.packets(), 0);
    }

    private static void wrongInputs(Due due) {
        LeaseNet x = new LeaseNet();
        for (int a : new int[] {0, -1, 1024, Integer.MIN_VALUE, Integer.MAX_VALUE}) {
            due.fails("record(" + a + ", 0)", IndexOutOfBoundsException.class, () -> x.record(a, 0));
        }
        for (int w : new int[] {-1, 3, Integer.MIN_VALUE, Integer.MAX_VALUE}) {
            due.fails("record(1, " + w + ")", IndexOutOfBoundsException.class, () -> x.record(1, w));
        }
        for (int w : new int[] {-1, 5, Integer.MIN_VALUE, Integer.MAX_VALUE}) {
            due.fails("count(" + w + ")", IndexOutOfBoundsException.class, () -> x.count(w));
        }
        due.record("1023 is an address", x, 1023, 0, -1, 0);
    }

    private static void down(Due due) {
        LeaseNet x = Play.with(2, 9, 20);
        Play.lend(x, 0, 1, 2);
        x.down(true);
        due.is("down", x.count(3), 0);
        discover(x, 1, 50);
        nothing(due, "down", x);
        due.record("it forgets nothing", x, 2, 2, 0, 20);
        due.is("records", x.count(2), 1);
        due.is("free", x.count(4), 7);
        x.down(true);
        due.is("down still", x.count(3), 0);
        x.down(false);
        due.is("up", x.count(3), 1);
        discover(x, 1, 49);
        answer(due, "the xid of one that was not looked at does not count", x, 1, Play.offer(1, 49, 3, 20));
        discover(x, 0, 1);
        nothing(due, "but those before do", x);
    }

    private static void notLookedAt(Due due) {
        LeaseNet x = Play.with(2, 9, 20);
        discover(x, 12, 1);
        discover(x, 255, 1);
        nothing(due, "no such client", x);
        Msg.up(0, 1).op(2).kind(Msg.DISCOVER).end().bringTo(x, SERVER);
        nothing(due, "op 2", x);
        for (int g : new int[] {1024, -1, Integer.MIN_VALUE, Integer.MAX_VALUE, 0x01000000, 256, 0xFF000001}) {
            Msg.up(0, 9).giaddr(g).kind(Msg.DISCOVER).end().bringTo(x, SERVER);
            Msg.up(0, 9).ciaddr(g).kind(Msg.DISCOVER).end().bringTo(x, SERVER);
        }
        nothing(due, "no such subnet, or no pool of it", x);
        due.is("no records", x.count(2), 0);
        discover(x, 0, 1);
        answer(due, "their xid does not count", x, 0, Play.offer(0, 1, 2, 20));
    }

    private static void xids(Due due) {
        LeaseNet x = Play.with(2, 9, 20);
        discover(x, 0, Integer.MIN_VALUE);
        answer(due, "at first any", x, 0, Play.offer(0, Integer.MIN_VALUE, 2, 20));
        discover(x, 0, -5);
        answer(due, "greater", x, 0, Play.offer(0, -5, 2, 20));
        discover(x, 0, -6);
        nothing(due, "less", x);
        discover(x, 0, -5);
        answer(due, "the same", x, 0, Play.offer(0, -5, 2, 20));
        discover(x, 0, 3);
        answer(due, "numbers have a sign", x, 0, Play.offer(0, 3, 2, 20));
        discover(x, 0, -1);
        nothing(due, "so that -1 is less than 3", x);
        discover(x, 1, 1);
        answer(due, "each client has its own", x, 1, Play.offer(1, 1, 3, 20));
        Msg.up(0, 10).kind(77).end().bringTo(x, SERVER);
        discover(x, 0, 9);
        nothing(due, "of any type", x);
        Msg.up(0, 12).end().bringTo(x, SERVER);
        discover(x, 0, 11);
        nothing(due, "or of none", x);
        Msg.up(0, 14).kind(Msg.DISCOVER).bringTo(x, SERVER);
        discover(x, 0, 12);
        answer(due, "broken ones do not count", x, 0, Play.offer(0, 12, 2, 20));
    }

    private static void subnets(Due due) {
        LeaseNet x = new LeaseNet();
        for (int s = 0; s < 4; s++) {
            x.pool(s, 10 + s, 20, 30 + s);
        }
        for (int s = 1; s < 4; s++) {
            Msg.up(s, 1).giaddr(256 * s + 99).ciaddr(5).kind(Msg.DISCOVER).end().bringTo(x, SERVER);
            answer(due, "the subnet of giaddr, to its relay", x, 12 + s,
                    Play.offer(s, 1, 256 * s + 10 + s, 30 + s).giaddr(256 * s + 99));
            Msg.up(s, 2).ciaddr(256 * s + 3).kind(Msg.DISCOVER).end().bringTo(x, SERVER);
            answer(due, "that of ciaddr, to the client", x, s, Play.offer(s, 2, 256 * s + 10 + s, 30 + s));
        }
        Msg.up(0, 1).giaddr(200).ciaddr(600).kind(Msg.DISCOVER).end().bringTo(x, SERVER);
        answer(due, "a giaddr of subnet 0: to the client", x, 0, Play.offer(0, 1, 10, 30).giaddr(200));
        Msg.up(5, 1).hops(3).yiaddr(600).kind(Msg.DISCOVER).lease(9).end().bringTo(x, SERVER);
        answer(due, "both 0: subnet 0; all else 0", x, 5, Play.offer(5, 1, 11, 30));
    }

    private static void discoverOwn(Due due) {
        LeaseNet x = Play.with(2, 9, 20);
        x.pool(0, 6, 9, 20);
        discover(x, 0, 1);
        answer(due, "from the later pool", x, 0, Play.offer(0, 1, 6, 20));
        x.pool(0, 2, 5, 20);
        discover(x, 0, 2);
        answer(due, "a record outside the pool is none", x, 0, Play.offer(0, 2, 2, 20));
        due.is("two records", x.count(2), 2);
        x.pool(0, 2, 9, 20);
        Msg.up(0, 3).kind(Msg.DISCOVER).wanted(6).end().bringTo(x, SERVER);
        answer(due, "the least with a record of it, before wanted", x, 0, Play.offer(0, 3, 2, 20));
        Play.ticks(x, 8);
        due.is("both are past", x.count(4), 8);
        Msg.up(0, 4).kind(Msg.DISCOVER).wanted(7).end().bringTo(x, SERVER);
        answer(due, "even when it is past", x, 0, Play.offer(0, 4, 2, 20));
        due.record("offered anew", x, 2, 1, 0, 16);
        due.record("the other stays", x, 6, 1, 0, 8);
        x.tick();
        discover(x, 0, 5);
        answer(due, "offered again", x, 0, Play.offer(0, 5, 2, 20));
        due.record("from now", x, 2, 1, 0, 17);
        LeaseNet y = Play.with(2, 4, 20);
        Play.lend(y, 0, 1, 4);
        discover(y, 0, 3);
        answer(due, "the last of the pool", y, 0, Play.offer(0, 3, 4, 20));
    }

    private static void discoverWanted(Due due) {
        LeaseNet x = Play.with(2, 9, 20);
        Msg.up(0, 1).kind(Msg.DISCOVER).wanted(7).end().bringTo(x, SERVER);
        answer(due, "wanted", x, 0, Play.offer(0, 1, 7, 20));
        due.record("wanted", x, 7, 1, 0, 8);
        Msg.up(1, 1).kind(Msg.DISCOVER).wanted(7).end().bringTo(x, SERVER);
        answer(due, "not free", x, 1, Play.offer(1, 1, 2, 20));
        for (int w : new int[] {1, 10, 258, -1, Integer.MIN_VALUE, Integer.MAX_VALUE}) {
            LeaseNet y = Play.with(2, 9, 20);
            Msg.up(2, 1).kind(Msg.DISCOVER).wanted(w).end().bringTo(y, SERVER);
            answer(due, "not in the pool", y, 2, Play.offer(2, 1, 2, 20));
        }
        Play.ticks(x, 7);
        Msg.up(3, 1).kind(Msg.DISCOVER).wanted(7).end().bringTo(x, SERVER);
        answer(due, "not free yet", x, 3, Play.offer(3, 1, 3, 20));
        x.tick();
        Msg.up(4, 1).kind(Msg.DISCOVER).wanted(7).end().bringTo(x, SERVER);
        answer(due, "free, though others have no record", x, 4, Play.offer(4, 1, 7, 20));
        due.record("it has gone over", x, 7, 1, 4, 16);
        LeaseNet z = Play.with(9, 9, 20);
        Msg.up(2, 1).kind(Msg.DISCOVER).wanted(9).end().bringTo(z, SERVER);
        answer(due, "the edge of the pool", z, 2, Play.offer(2, 1, 9, 20));
    }

    private static void discoverFresh(Due due) {
        LeaseNet x = Play.with(2, 4, 20);
        discover(x, 0, 1);
        answer(due, "the least", x, 0, Play.offer(0, 1, 2, 20));
        Play.ticks(x, 8);
        due.is("all are free", x.count(4), 3);
        discover(x, 1, 1);
        answer(due, "without a record, before one that is free", x, 1, Play.offer(1, 1, 3, 20));
        discover(x, 2, 1);
        answer(due, "the last without a record", x, 2, Play.offer(2, 1, 4, 20));
        LeaseNet y = Play.with(2, 3, 20);
        Play.lend(y, 0, 1, 2);
        Msg.up(0, 3).ciaddr(2).kind(Msg.RELEASE).end().bringTo(y, SERVER);
        due.record("released at time 0", y, 2, 2, 0, 0);
        discover(y, 1, 1);
        answer(due, "a record of time 0 is a record", y, 1, Play.offer(1, 1, 3, 20));
    }

    private static void discoverOldest(Due due) {
        LeaseNet x = Play.with(2, 5, 20);
        Msg.up(0, 1).kind(Msg.DISCOVER).wanted(4).end().bringTo(x, SERVER);
        Msg.up(1, 1).kind(Msg.DISCOVER).wanted(5).end().bringTo(x, SERVER);
        x.tick();
        Msg.up(2, 1).kind(Msg.DISCOVER).wanted(3).end().bringTo(x, SERVER);
        Play.clear(x);
        Play.lend(x, 3, 1, 2);
        due.record("leased", x, 2, 2, 3, 21);
        Play.ticks(x, 6);
        discover(x, 4, 1);
        nothing(due, "none is free at 7", x);
        due.is("none", x.count(4), 0);
        x.tick();
        due.is("two", x.count(4), 2);
        x.tick();
        due.is("three", x.count(4), 3);
        discover(x, 4, 1);
        answer(due, "the least of those whose time is least", x, 4, Play.offer(4, 1, 4, 20));
        due.record("gone over", x, 4, 1, 4, 17);
        discover(x, 5, 1);
        answer(due, "then the other", x, 5, Play.offer(5, 1, 5, 20));
        discover(x, 6, 1);
        answer(due, "then the later one", x, 6, Play.offer(6, 1, 3, 20));
        discover(x, 7, 1);
        nothing(due, "then none", x);
        due.is("four records", x.count(2), 4);
    }

    private static void discoverLeased(Due due) {
        LeaseNet x = Play.with(2, 5, 20);
        Play.lend(x, 0, 1, 3);
        Play.ticks(x, 19);
        discover(x, 0, 3);
        answer(due, "leased still", x, 0, Play.offer(0, 3, 3, 20));
        due.record("stays leased", x, 3, 2, 0, 20);
        x.tick();
        discover(x, 0, 4);
        answer(due, "not leased any more", x, 0, Play.offer(0, 4, 3, 20));
        due.record("becomes offered", x, 3, 1, 0, 28);
    }

    private static void requestOfThisServer(Due due) {
        LeaseNet x = Play.with(2, 5, 20);
        discover(x, 0, 1);
        x.drop(0);
        Msg.up(1, 1).kind(Msg.REQUEST).wanted(2).server(1).end().bringTo(x, SERVER);
        answer(due, "another's", x, 1, Play.nak(1, 1));
        Msg.up(0, 2).kind(Msg.REQUEST).wanted(3).server(1).end().bringTo(x, SERVER);
        answer(due, "without a record", x, 0, Play.nak(0, 2));
        Msg.up(0, 2).kind(Msg.REQUEST).server(1).end().bringTo(x, SERVER);
        answer(due, "without wanted", x, 0, Play.nak(0, 2));
        for (int w : new int[] {1, 6, 258, -1, 1024, Integer.MIN_VALUE, Integer.MAX_VALUE}) {
            Msg.up(0, 2).kind(Msg.REQUEST).wanted(w).server(1).end().bringTo(x, SERVER);
            answer(due, "not in the pool", x, 0, Play.nak(0, 2));
        }
        Msg.up(0, 2).kind(Msg.REQUEST).ciaddr(2).server(1).end().bringTo(x, SERVER);
        answer(due, "ciaddr does not count", x, 0, Play.nak(0, 2));
        due.record("offered still", x, 2, 1, 0, 8);
        requestInTime(due);
    }

    private static void requestInTime(Due due) {
        LeaseNet x = Play.with(2, 5, 20);
        discover(x, 0, 1);
        x.drop(0);
        Play.ticks(x, 7);
        Msg.up(0, 3).kind(Msg.REQUEST).wanted(2).server(1).end().bringTo(x, SERVER);
        answer(due, "in time", x, 0, Play.ack(0, 3, 2, 20));
        due.record("leased", x, 2, 2, 0, 27);
        Play.ticks(x, 19);
        Msg.up(0, 3).kind(Msg.REQUEST).wanted(2).server(1).end().bringTo(x, SERVER);
        answer(due, "leased already", x, 0, Play.ack(0, 3, 2, 20));
        due.record("longer", x, 2, 2, 0, 46);
        Play.ticks(x, 20);
        Msg.up(0, 4).kind(Msg.REQUEST).wanted(2).server(1).end().bringTo(x, SERVER);
        answer(due, "past", x, 0, Play.nak(0, 4));
        due.record("as it was", x, 2, 2, 0, 46);
        LeaseNet y = Play.with(2, 5, 20);
        discover(y, 0, 1);
        y.drop(0);
        y.pool(0, 3, 5, 20);
        Msg.up(0, 2).kind(Msg.REQUEST).wanted(2).server(1).end().bringTo(y, SERVER);
        answer(due, "not in the pool any more", y, 0, Play.nak(0, 2));
    }

    private static void requestOfAnotherServer(Due due) {
        LeaseNet x = Play.with(2, 5, 20);
        discover(x, 0, 1);
        x.drop(0);
        Msg.up(0, 2).kind(Msg.REQUEST).wanted(2).server(2).end().bringTo(x, SERVER);
        nothing(due, "another server", x);
        due.record("has none any more", x, 2, 0, -1, 0);
        due.is("no records", x.count(2), 0);
        Play.lend(x, 0, 3, 4);
        Msg.up(0, 5).kind(Msg.REQUEST).wanted(4).server(-1).end().bringTo(x, SERVER);
        nothing(due, "another server", x);
        due.record("leased ones stay", x, 4, 2, 0, 20);
        x.pool(0, 2, 3, 20);
        discover(x, 0, 6);
        x.drop(0);
        due.record("offered", x, 2, 1, 0, 8);
        x.pool(0, 3, 5, 20);
        Msg.up(0, 7).kind(Msg.REQUEST).wanted(2).server(257).end().bringTo(x, SERVER);
        due.record("of the pool alone", x, 2, 1, 0, 8);
        x.pool(0, 2, 5, 20);
        Play.ticks(x, 8);
        Msg.up(1, 8).kind(Msg.REQUEST).wanted(2).server(257).end().bringTo(x, SERVER);
        due.record("of this client alone", x, 2, 1, 0, 8);
        Msg.up(0, 8).kind(Msg.REQUEST).wanted(5).server(257).end().bringTo(x, SERVER);
        due.record("the least, even when it is past", x, 2, 0, -1, 0);
        due.record("the other stays", x, 4, 2, 0, 20);
        onlyTheLeast(due);
    }

    private static void onlyTheLeast(Due due) {
        LeaseNet x = Play.with(6, 9, 20);
        discover(x, 0, 1);
        x.drop(0);
        x.pool(0, 2, 5, 20);
        Play.lend(x, 0, 2, 2);
        x.pool(0, 2, 9, 20);
        Msg.up(0, 4).kind(Msg.REQUEST).server(3).end().bringTo(x, SERVER);
        due.record("the least is leased", x, 2, 2, 0, 20);
        due.record("so that the other stays offered", x, 6, 1, 0, 8);
    }

    private static void requestWithoutServer(Due due) {
        LeaseNet x = Play.with(2, 5, 20);
        Play.lend(x, 0, 1, 2);
        x.tick();
        Msg.up(0, 3).ciaddr(2).kind(Msg.REQUEST).end().bringTo(x, SERVER);
        answer(due, "ciaddr", x, 0, Play.ack(0, 3, 2, 20));
        due.record("longer", x, 2, 2, 0, 21);
        x.tick();
        Msg.up(0, 3).kind(Msg.REQUEST).wanted(2).server(0).end().bringTo(x, SERVER);
        answer(due, "wanted; server 0 is none", x, 0, Play.ack(0, 3, 2, 20));
        due.record("longer", x, 2, 2, 0, 22);
        Msg.up(0, 4).ciaddr(3).kind(Msg.REQUEST).wanted(2).end().bringTo(x, SERVER);
        nothing(due, "ciaddr goes first; it has no record", x);
        Msg.up(1, 4).ciaddr(2).kind(Msg.REQUEST).end().bringTo(x, SERVER);
        answer(due, "another's", x, 1, Play.nak(1, 4));
        Msg.up(1, 5).kind(Msg.REQUEST).wanted(5).end().bringTo(x, SERVER);
        nothing(due, "without a record", x);
        due.is("and none is made", x.count(2), 1);
        for (int a : new int[] {1, 6, 255}) {
            Msg.up(0, 5).ciaddr(a).kind(Msg.REQUEST).wanted(2).end().bringTo(x, SERVER);
            answer(due, "ciaddr " + a + " is not in the pool", x, 0, Play.nak(0, 5));
        }
        for (int a : new int[] {0, 1, 6, 255, 258, 1024, -1, Integer.MIN_VALUE, Integer.MAX_VALUE}) {
            LeaseNet y = Play.with(2, 5, 20);
            Msg.up(0, 6).kind(Msg.REQUEST).wanted(a).end().bringTo(y, SERVER);
            answer(due, "wanted " + a + " is not in the pool", y, 0, Play.nak(0, 6));
        }
        Msg.up(0, 6).kind(Msg.REQUEST).end().bringTo(x, SERVER);
        answer(due, "neither", x, 0, Play.nak(0, 6));
        pastWithoutServer(due);
    }

    private static void pastWithoutServer(Due due) {
        LeaseNet x = Play.with(2, 5, 20);
        Play.lend(x, 0, 1, 2);
        Play.ticks(x, 32);
        Msg.up(0, 7).ciaddr(2).kind(Msg.REQUEST).end().bringTo(x, SERVER);
        answer(due, "a record of this client that is past", x, 0, Play.ack(0, 7, 2, 20));
        due.record("leased again", x, 2, 2, 0, 52);
        Msg.up(3, 1).kind(Msg.DISCOVER).end().bringTo(x, SERVER);
        x.drop(0);
        Msg.up(3, 2).kind(Msg.REQUEST).wanted(3).end().bringTo(x, SERVER);
        answer(due, "one that is offered", x, 3, Play.ack(3, 2, 3, 20));
        due.record("is leased", x, 3, 2, 3, 52);
        Msg.up(3, 3).kind(Msg.DECLINE).wanted(3).end().bringTo(x, SERVER);
        Msg.up(3, 4).kind(Msg.REQUEST).wanted(3).end().bringTo(x, SERVER);
        answer(due, "one that is declined is of no client", x, 3, Play.nak(3, 4));
        Play.ticks(x, 200);
        Msg.up(1, 6).kind(Msg.REQUEST).wanted(2).end().bringTo(x, SERVER);
        answer(due, "another's that is past", x, 1, Play.nak(1, 6));
        Msg.up(1, 7).giaddr(129).ciaddr(600).kind(Msg.REQUEST).end().bringTo(x, SERVER);
        answer(due, "a ciaddr of another subnet", x, 1, Play.nak(1, 7).giaddr(129));
    }

    private static void longerLeaseStays(Due due) {
        LeaseNet x = Play.with(2, 5, 100);
        Play.lend(x, 0, 1, 2);
        x.pool(0, 2, 5, 10);
        Msg.up(0, 3).ciaddr(2).kind(Msg.REQUEST).end().bringTo(x, SERVER);
        answer(due, "the lease of now", x, 0, Play.ack(0, 3, 2, 10));
        due.record("as long as it was leased", x, 2, 2, 0, 100);
        Msg.up(0, 4).kind(Msg.REQUEST).wanted(2).server(1).end().bringTo(x, SERVER);
        answer(due, "the lease of now", x, 0, Play.ack(0, 4, 2, 10));
        due.record("as long as it was leased", x, 2, 2, 0, 100);
        Play.ticks(x, 95);
        Msg.up(0, 5).ciaddr(2).kind(Msg.REQUEST).end().bringTo(x, SERVER);
        due.record("until later", x, 2, 2, 0, 105);
    }

    private static void decline(Due due) {
        LeaseNet x = Play.with(2, 3, 20);
        Play.lend(x, 0, 1, 2);
        x.tick();
        Msg.up(1, 1).kind(Msg.DECLINE).wanted(2).end().bringTo(x, SERVER);
        due.record("another's", x, 2, 2, 0, 20);
        Msg.up(0, 3).ciaddr(2).kind(Msg.DECLINE).end().bringTo(x, SERVER);
        due.record("ciaddr does not count", x, 2, 2, 0, 20);
        for (int w : new int[] {0, 3, 1024, -1, Integer.MIN_VALUE, Integer.MAX_VALUE}) {
            Msg.up(0, 4).kind(Msg.DECLINE).wanted(w).end().bringTo(x, SERVER);
        }
        due.is("one record", x.count(2), 1);
        Msg.up(0, 5).kind(Msg.DECLINE).wanted(2).end().bringTo(x, SERVER);
        nothing(due, "decline", x);
        due.record("declined", x, 2, 3, -1, 101);
        Msg.up(0, 6).kind(Msg.DECLINE).wanted(2).end().bringTo(x, SERVER);
        x.tick();
        Msg.up(0, 6).kind(Msg.DECLINE).wanted(2).end().bringTo(x, SERVER);
        due.record("of no client any more", x, 2, 3, -1, 101);
        Msg.up(0, 7).kind(Msg.DISCOVER).wanted(2).end().bringTo(x, SERVER);
        answer(due, "not free", x, 0, Play.offer(0, 7, 3, 20));
        Play.ticks(x, 98);
        due.is("3 is free, 2 is not", x.count(4), 1);
        x.tick();
        due.is("free again", x.count(4), 2);
        discover(x, 1, 2);
        answer(due, "the time of a declined one counts as others do", x, 1, Play.offer(1, 2, 3, 20));
        discover(x, 2, 1);
        answer(due, "offered again", x, 2, Play.offer(2, 1, 2, 20));
        due.record("offered again", x, 2, 1, 2, 109);
        Msg.up(2, 2).kind(Msg.DECLINE).wanted(2).end().bringTo(x, SERVER);
        due.record("an offered one too", x, 2, 3, -1, 201);
        x.pool(0, 50, 60, 20);
        Msg.up(1, 3).kind(Msg.DECLINE).wanted(3).end().bringTo(x, SERVER);
        due.record("it need not be in the pool", x, 3, 3, -1, 201);
    }

    private static void release(Due due) {
        LeaseNet x = Play.with(2, 5, 20);
        Play.lend(x, 0, 1, 2);
        Play.ticks(x, 3);
        Msg.up(1, 1).ciaddr(2).kind(Msg.RELEASE).end().bringTo(x, SERVER);
        due.record("another's", x, 2, 2, 0, 20);
        Msg.up(0, 3).kind(Msg.RELEASE).wanted(2).end().bringTo(x, SERVER);
        due.record("wanted does not count", x, 2, 2, 0, 20);
        for (int a : new int[] {1, 3, 255}) {
            Msg.up(0, 3).ciaddr(a).kind(Msg.RELEASE).end().bringTo(x, SERVER);
        }
        Msg.up(0, 3).ciaddr(-1).giaddr(1).kind(Msg.RELEASE).end().bringTo(x, SERVER);
        Msg.up(0, 3).ciaddr(1024).giaddr(1).kind(Msg.RELEASE).end().bringTo(x, SERVER);
        due.is("one record", x.count(2), 1);
        Msg.up(0, 4).ciaddr(2).kind(Msg.RELEASE).end().bringTo(x, SERVER);
        nothing(due, "release", x);
        due.record("its time is now", x, 2, 2, 0, 3);
        due.is("free", x.count(4), 4);
        due.is("a record still", x.count(2), 1);
        discover(x, 1, 2);
        answer(due, "those without a record go first", x, 1, Play.offer(1, 2, 3, 20));
        Msg.up(1, 3).ciaddr(3).kind(Msg.RELEASE).end().bringTo(x, SERVER);
        due.record("an offered one is not leased", x, 3, 1, 1, 11);
        discover(x, 0, 5);
        answer(due, "the client gets it back", x, 0, Play.offer(0, 5, 2, 20));
        due.record("offered", x, 2, 1, 0, 11);
        releaseTooLate(due);
    }

    private static void releaseTooLate(Due due) {
        LeaseNet x = Play.with(2, 2, 20);
        Play.lend(x, 0, 1, 2);
        Play.ticks(x, 30);
        Msg.up(0, 3).ciaddr(2).kind(Msg.RELEASE).end().bringTo(x, SERVER);
        due.record("one that is past is LEASED still: its time is now", x, 2, 2, 0, 30);
        Play.ticks(x, 10);
        Msg.up(0, 4).kind(Msg.DECLINE).wanted(2).end().bringTo(x, SERVER);
        due.record("and may be declined", x, 2, 3, -1, 140);
        LeaseNet y = Play.with(2, 2, 20);
        Play.lend(y, 0, 1, 2);
        y.pool(0, 50, 60, 20);
        y.tick();
        Msg.up(0, 3).ciaddr(2).kind(Msg.RELEASE).end().bringTo(y, SERVER);
        due.record("it need not be in the pool", y, 2, 2, 0, 1);
    }

    private static void others(Due due) {
        LeaseNet x = Play.with(2, 5, 20);
        for (int kind : new int[] {0, 2, 5, 6, 8, 53, 255}) {
            Msg.up(0, 1).kind(kind).wanted(2).server(1).end().bringTo(x, SERVER);
        }
        Msg.up(0, 1).wanted(2).server(1).end().bringTo(x, SERVER);
        nothing(due, "others", x);
        due.is("no records", x.count(2), 0);
        Msg.up(0, 2).kind(Msg.RELEASE).kind(Msg.DISCOVER).end().kind(Msg.NAK).bringTo(x, SERVER);
        answer(due, "the last type counts", x, 0, Play.offer(0, 2, 2, 20));
    }

    private static void counts(Due due) {
        LeaseNet x = new LeaseNet();
        x.pool(0, 2, 5, 20);
        x.pool(1, 2, 3, 20);
        due.is("free", x.count(4), 6);
        discover(x, 0, 1);
        Msg.up(1, 1).giaddr(257).kind(Msg.DISCOVER).end().bringTo(x, SERVER);
        due.is("free", x.count(4), 4);
        due.is("records", x.count(2), 2);
        due.is("packets()", x.packets(), 2);
        Play.ticks(x, 7);
        due.is("time", x.count(0), 7);
        due.is("free", x.count(4), 4);
        x.tick();
        due.is("not later than now is free", x.count(4), 6);
        due.is("records", x.count(2), 2);
        x.pool(1, 3, 3, 20);
        due.is("of pools alone", x.count(4), 5);
        due.is("records of no pool count", x.count(2), 2);
    }
}
