/** The edges of the row of packets, of carrying them, and of relays, sentence by sentence. */
final class EdgesOfNetTest {
    private static final int ROOM = 60;

    interface Act {
        void on(LeaseNet x);
    }

    public static void main(String[] args) {
        Due due = new Due("EdgesOfNetTest");
        howMany(due);
        lostByClients(due);
        lostByRelaysAndServer(due);
        lostByInject(due);
        lostOnesLeaveTheRowAlone(due);
        orderOfSending(due);
        carriedOnesMakeRoom(due);
        brokenOnes(due);
        broadcasts(due);
        hops(due);
        giaddrs(due);
        relayToClients(due);
        twice(due);
        drop(due);
        runToTheEnd(due);
        runOfSoMany(due);
        due.end();
    }

    private static void howMany(Due due) {
        due.says("How many packets are under way");
        LeaseNet x = new LeaseNet();
        due.is("at first", x.packets(), 0);
        for (int i = 1; i <= ROOM; i++) {
            Play.fill(x, 1);
            due.is("packets()", x.packets(), i);
        }
        due.is("none is lost yet", x.count(1), 0);
        Play.fill(x, 3);
        due.is("packets() of 63", x.packets(), ROOM);
        due.is("three are lost", x.count(1), 3);
        Play.clear(x);
        due.is("packets()", x.packets(), 0);
        due.is("lost ones stay lost", x.count(1), 3);
    }

    /** With 59 under way what is sent finds room; with 60 it is lost. What x has is brought to so many. */
    private static LeaseNet sends(Due due, String what, LeaseNet x, int under, Act act) {
        Play.fill(x, under - x.packets());
        act.on(x);
        due.is(what + " with " + under + ": packets()", x.packets(), ROOM);
        due.is(what + " with " + under + ": lost", x.count(1), under == ROOM ? 1 : 0);
        return x;
    }

    private static void lostByClients(Due due) {
        due.says("60 at most: one more is LOST (what a client sends)");
        for (int under : new int[] {59, 60}) {
            LeaseNet x = sends(due, "join", new LeaseNet(), under, y -> y.join(3, 2));
            due.client("it has sent all the same", x, 3, 1, 0, 0, 0, 1, 1, 2);
            x = sends(due, "join again", offWithAddress(), under, y -> y.join(0, 1));
            due.client("rebooting", x, 0, 6, 300, 80, 0, 3, 1, 1);
            x = sends(due, "leave", Play.inState(Play.BOUND), under, y -> y.leave(0));
            due.client("left", x, 0, 0, 0, 0, 0, 3, 1, 1);
            x = sends(due, "a try", Play.inState(Play.SELECTING), under, y -> Play.ticks(y, 4));
            due.client("try 2", x, 0, 1, 0, 0, 0, 2, 2, 1);
            x = sends(due, "a renewal", Play.inState(Play.BOUND), under, y -> Play.ticks(y, 40));
            due.client("renewing", x, 0, 4, 300, 80, 300, 3, 1, 1);
            x = sends(due, "REQUEST", heard(Play.SELECTING, Play.offer(0, 1, 9, 8)), under, y -> y.twice(0));
            due.client("requesting", x, 0, 2, 0, 0, 0, 2, 1, 1);
            x = sends(due, "DECLINE", strangeOne(), under, y -> y.twice(0));
            due.client("waiting", x, 0, 7, 0, 0, 0, 3, 1, 1);
            x = sends(due, "DISCOVER", heard(Play.REQUESTING, Play.nak(0, 2)), under, y -> y.twice(0));
            due.client("selecting", x, 0, 1, 0, 0, 0, 3, 1, 1);
        }
    }

    private static LeaseNet offWithAddress() {
        LeaseNet x = Play.inState(Play.BOUND);
        x.off(0);
        return x;
    }

    private static LeaseNet heard(int state, Msg message) {
        LeaseNet x = Play.inState(state);
        message.injectTo(x, 0);
        return x;
    }

    private static LeaseNet strangeOne() {
        LeaseNet x = heard(Play.REQUESTING, Play.ack(0, 2, 300, 80));
        x.strange(300, true);
        return x;
    }

    private static void lostByRelaysAndServer(Due due) {
        due.says("60 at most: one more is LOST (what a relay or the server sends)");
        for (int under : new int[] {59, 60}) {
            LeaseNet up = new LeaseNet();
            Play.discover(0, 1).injectTo(up, 13);
            sends(due, "a relay to the server", up, under, y -> y.twice(0));
            LeaseNet down = new LeaseNet();
            Play.nak(0, 1).injectTo(down, 13);
            sends(due, "a relay to a client", down, under, y -> y.twice(0));
            LeaseNet offers = Play.with(2, 3, 8);
            Play.discover(5, 1).injectTo(offers, Play.SERVER);
            sends(due, "the server", offers, under, y -> y.twice(0));
            due.record("it has looked at it all the same", offers, 2, 1, 5, 8);
            offers.drop(1);
            Play.discover(5, 0).injectTo(offers, Play.SERVER);
            offers.carry(offers.packets() - 1);
            due.is("its xid counts all the same", offers.packets(), ROOM - 1);
        }
    }

    private static void lostByInject(Due due) {
        due.says("60 at most: one more is LOST (what is injected)");
        for (int under : new int[] {59, 60}) {
            LeaseNet x = sends(due, "inject", new LeaseNet(), under, y -> Msg.up(1, 1).end().injectTo(y, 16));
            due.fails("The tape is taken", IllegalArgumentException.class, () -> x.inject(16));
            due.is("the tape has room for 8", x.type(0, 8), true);
        }
    }

    private static void lostOnesLeaveTheRowAlone(Due due) {
        due.says("one more is LOST: those before it are as they were");
        LeaseNet x = new LeaseNet();
        Play.fill(x, ROOM);
        x.type(0x77777777L, 4);
        x.inject(16);
        x.join(1, 2);
        for (int k = 0; k < ROOM; k++) {
            due.packet("packet " + k, x, k, 0, new int[] {k});
        }
    }

    private static void orderOfSending(Due due) {
        due.says("in the order in which they were sent");
        LeaseNet x = new LeaseNet();
        Play.fill(x, ROOM);
        x.drop(0);
        x.drop(58);
        x.drop(30);
        x.join(4, 3);
        int[] left = new int[57];
        for (int k = 0; k < 57; k++) {
            left[k] = k < 30 ? k + 1 : k + 2;
            due.packet("packet " + k, x, k, 0, new int[] {left[k]});
        }
        due.packet("the last", x, 57, 15, Play.discover(4, 1));
        due.is("packets()", x.packets(), 58);
        LeaseNet y = new LeaseNet();
        y.join(9, 1);
        y.join(2, 1);
        Play.ticks(y, 4);
        int[] want = {9, 2, 2, 9};
        for (int k = 0; k < 4; k++) {
            due.is("chaddr of packet " + k + ": in a tick, client by client", y.packet(k, 18), want[k]);
        }
    }

    private static void carriedOnesMakeRoom(Due due) {
        due.says("One that is CARRIED goes from the row, and comes to its place");
        for (int at : new int[] {0, 30, 59}) {
            LeaseNet x = new LeaseNet();
            Play.fill(x, at);
            Play.discover(7, 1).injectTo(x, 14);
            Play.fill(x, ROOM - 1 - at);
            due.is("carry(" + at + ")", x.carry(at), 14);
            due.is("packets()", x.packets(), ROOM);
            due.is("lost", x.count(1), 0);
            due.packet("what the relay sends is the last", x, 59, 16, Play.discover(7, 1).hops(1).giaddr(513));
        }
        LeaseNet y = new LeaseNet();
        Play.discover(7, 1).injectTo(y, 14);
        Play.fill(y, ROOM - 1);
        due.is("run(1)", y.run(1), 1);
        due.is("lost", y.count(1), 0);
        due.packet("what the relay sends is the last", y, 59, 16, Play.discover(7, 1).hops(1).giaddr(513));
    }

    private static void brokenOnes(Due due) {
        due.says("broken ones are not looked at");
        for (int place = 0; place <= 16; place++) {
            if (place != 12) {
                isNotLookedAt(due, "without end", place, Msg.up(0, 1).kind(Msg.DISCOVER));
                isNotLookedAt(due, "op 0", place, Play.discover(0, 1).op(0));
                isNotLookedAt(due, "op 3", place, Play.discover(0, 1).op(3));
                isNotLookedAt(due, "an OFFER without end", place, Msg.downTo(0, 1).yiaddr(9).kind(2).server(1));
                isNotLookedAt(due, "an OFFER of op 255", place, Play.offer(0, 1, 9, 8).op(255));
                isNotLookedAt(due, "a wrong length", place, Msg.up(0, 1).kind(1).raw(54, 3, 0, 0, 1).end());
            }
        }
        LeaseNet x = Play.with(2, 9, 20);
        Play.discover(0, 5).op(9).bringTo(x, Play.SERVER);
        Play.discover(0, 4).bringTo(x, Play.SERVER);
        due.is("nor does their xid count", x.packets(), 1);
    }

    private static void isNotLookedAt(Due due, String what, int place, Msg message) {
        LeaseNet x = Play.with(2, 9, 20);
        x.join(0, 0);
        x.drop(0);
        message.injectTo(x, place);
        x.twice(0);
        due.is(what + ", at " + place + ": under way still", x.packets(), 1);
        due.is(what + ": carry(0)", x.carry(0), place);
        due.is(what + ", at " + place + ": packets()", x.packets(), 0);
        message.injectTo(x, place);
        due.is(what + ": run counts it", x.run(200), 1);
        due.is(what + ", at " + place + ": packets()", x.packets(), 0);
        due.is(what + ", at " + place + ": records", x.count(2), 0);
        due.is(what + ", at " + place + ": lost", x.count(1), 0);
        due.client(what, x, 0, 1, 0, 0, 0, 1, 1, 0);
    }

    private static void broadcasts(Due due) {
        due.says("A client BROADCASTS to the relay of its subnet; on subnet 0 to the server");
        int[] places = {16, 13, 14, 15};
        for (int s = 0; s <= 3; s++) {
            LeaseNet x = new LeaseNet();
            x.join(11, s);
            due.is("place of DISCOVER", x.packet(0, -1), places[s]);
            Play.offer(11, 1, 5, 8).bringTo(x, 11);
            due.is("place of REQUEST", x.packet(1, -1), places[s]);
            x.strange(5, true);
            Play.ack(11, 2, 5, 8).bringTo(x, 11);
            due.is("place of DECLINE", x.packet(2, -1), places[s]);
        }
    }

    private static void hops(Due due) {
        due.says("hops grows by 1 (from 4 on the message is not looked at)");
        for (int place = 13; place <= 15; place++) {
            for (int hops = 0; hops <= 3; hops++) {
                LeaseNet x = new LeaseNet();
                Msg.up(1, 1).hops(hops).giaddr(77).end().bringTo(x, place);
                due.packet("hops " + hops, x, 0, 16, Msg.up(1, 1).hops(hops + 1).giaddr(77).end());
            }
            for (int hops : new int[] {4, 5, 127, 128, 254, 255}) {
                LeaseNet x = new LeaseNet();
                Msg.up(1, 1).hops(hops).giaddr(77).end().injectTo(x, place);
                due.is("carry(0) with hops " + hops, x.carry(0), place);
                due.is("packets() with hops " + hops, x.packets(), 0);
            }
            LeaseNet down = new LeaseNet();
            Msg.downTo(1, 1).hops(255).end().bringTo(down, place);
            due.packet("hops of op 2 do not count", down, 0, 1, Msg.downTo(1, 1).hops(255).end());
        }
        LeaseNet server = Play.with(2, 9, 20);
        Play.discover(1, 1).hops(255).bringTo(server, Play.SERVER);
        due.packet("nor for the server; its answer has none", server, 0, 1, Play.offer(1, 1, 2, 20));
    }

    private static void giaddrs(Due due) {
        due.says("giaddr, if it is 0, becomes the relay's address (256 * subnet + 1)");
        for (int s = 1; s <= 3; s++) {
            for (int giaddr : new int[] {0, 1, 256, 257, 513, 769, 1 << 24, -1, Integer.MIN_VALUE}) {
                LeaseNet x = new LeaseNet();
                Msg.up(1, 1).giaddr(giaddr).end().bringTo(x, 12 + s);
                due.packet("giaddr " + giaddr, x, 0, 16,
                        Msg.up(1, 1).hops(1).giaddr(giaddr == 0 ? 256 * s + 1 : giaddr).end());
            }
            LeaseNet down = new LeaseNet();
            Msg.downTo(1, 1).end().bringTo(down, 12 + s);
            due.packet("that of op 2 stays 0", down, 0, 1, Msg.downTo(1, 1).end());
        }
    }

    private static void relayToClients(Due due) {
        due.says("op 2: it goes to the client CHADDR, if there is one such");
        for (int place = 13; place <= 15; place++) {
            for (int client : new int[] {0, 1, 10, 11}) {
                LeaseNet x = new LeaseNet();
                Msg.downTo(client, 1).giaddr(900).end().bringTo(x, place);
                due.packet("chaddr " + client, x, 0, client, Msg.downTo(client, 1).giaddr(900).end());
            }
            for (int client : new int[] {12, 13, 16, 128, 255}) {
                LeaseNet x = new LeaseNet();
                Msg.downTo(client, 1).end().bringTo(x, place);
                due.is("packets() with chaddr " + client, x.packets(), 0);
            }
            LeaseNet up = new LeaseNet();
            Msg.up(255, 1).end().bringTo(up, place);
            due.is("that of op 1 does not count", up.packets(), 1);
        }
    }

    private static void twice(Due due) {
        due.says("Packet k's message comes to its place, and is under way still");
        LeaseNet x = new LeaseNet();
        Play.fill(x, 2);
        x.join(5, 1);
        Play.fill(x, 1);
        x.twice(2);
        due.is("packets()", x.packets(), 5);
        due.packet("where it was", x, 2, 13, Play.discover(5, 1));
        due.packet("and where it came to", x, 4, 16, Play.discover(5, 1).hops(1).giaddr(257));
        x.twice(4);
        due.packet("the last one too", x, 4, 16, Play.discover(5, 1).hops(1).giaddr(257));
        due.is("though nothing comes of it", x.packets(), 5);
    }

    private static void drop(Due due) {
        due.says("Packet k is not under way any more");
        for (int k = 0; k < 3; k++) {
            LeaseNet x = Play.with(2, 9, 20);
            for (int c = 0; c < 3; c++) {
                x.join(c, 0);
            }
            x.drop(k);
            due.is("packets()", x.packets(), 2);
            due.is("the first of those left", x.packet(0, 18), k == 0 ? 1 : 0);
            due.is("the other", x.packet(1, 18), k == 2 ? 1 : 2);
            due.is("it came to no place", x.count(2), 0);
            due.is("it is not LOST", x.count(1), 0);
            x.drop(1);
            x.drop(0);
            due.is("packets()", x.packets(), 0);
        }
    }

    private static void runToTheEnd(Due due) {
        due.says("The first packet is carried, until there is none: how many");
        LeaseNet x = new LeaseNet();
        due.is("run(200) of none", x.run(200), 0);
        Play.fill(x, ROOM);
        due.is("run(200) of 60 that are broken", x.run(200), 60);
        due.is("packets()", x.packets(), 0);
        x.pool(1, 2, 9, 20);
        x.join(0, 1);
        due.is("run(200): to relay, server, relay, client, twice", x.run(200), 8);
        due.client("bound", x, 0, 3, 258, 20, 258);
    }

    private static void runOfSoMany(Due due) {
        due.says("or n were: how many");
        LeaseNet x = new LeaseNet();
        Play.fill(x, 5);
        due.is("run(0)", x.run(0), 0);
        due.is("packets()", x.packets(), 5);
        due.is("run(1)", x.run(1), 1);
        due.is("the first was carried", x.packet(0, 0), 1);
        due.is("run(3)", x.run(3), 3);
        due.is("the last is left", x.packet(0, 0), 4);
        due.is("run(1)", x.run(1), 1);
        due.is("packets()", x.packets(), 0);
        // 12 clients ask by a relay, and each asks 4 times more: 12 * 8 and 48 * 3 are carried in all.
        LeaseNet y = new LeaseNet();
        y.pool(1, 2, 250, 8);
        for (int c = 0; c < 12; c++) {
            y.join(c, 1);
        }
        for (int i = 0; i < 48; i++) {
            y.twice(i % 12);
        }
        due.is("60 under way", y.packets(), 60);
        due.is("run(200) of more", y.run(200), 200);
        due.is("some are left", y.packets() > 0, true);
        due.is("run(200) of those", y.run(200), 40);
        due.is("packets()", y.packets(), 0);
        due.is("lost", y.count(1), 0);
    }
}
