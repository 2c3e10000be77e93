/** The edges of what the server looks at, lends and keeps, sentence by sentence. */
final class EdgesOfServerTest {
    private static final int SERVER = Play.SERVER;

    public static void main(String[] args) {
        Due due = new Due("EdgesOfServerTest");
        down(due);
        free(due);
        subnetOfGiaddr(due);
        subnetOfCiaddr(due);
        noSuchClient(due);
        noPool(due);
        xids(due);
        firstXids(due);
        whatDoesNotCount(due);
        whereAnswersGo(due);
        ownRecord(due);
        wanted(due);
        withoutRecord(due);
        leastTime(due);
        fullPool(due);
        leasedStill(due);
        requestOfServer1(due);
        requestInTime(due);
        leaseThatIsLater(due);
        requestOfAnotherServer(due);
        requestWithoutServer(due);
        ciaddrOrWanted(due);
        decline(due);
        release(due);
        others(due);
        recordsOfNone(due);
        counts(due);
        due.end();
    }

    private static Msg request(int client, int xid) {
        return Msg.up(client, xid).kind(Msg.REQUEST);
    }

    /** The one packet under way is this answer; it is dropped. */
    private static void answer(Due due, String what, LeaseNet x, int place, Msg want) {
        due.is(what + ": packets()", x.packets(), 1);
        due.packet(what, x, 0, place, want);
        Play.clear(x);
    }

    private static void nothing(Due due, String what, LeaseNet x) {
        due.is(what + ": packets()", x.packets(), 0);
        Play.clear(x);
    }

    private static void down(Due due) {
        due.says("not looked at while it is DOWN; it forgets nothing");
        LeaseNet x = Play.with(2, 9, 20);
        Play.lend(x, 0, 4, 3);
        x.down(true);
        due.is("count(3)", x.count(3), 0);
        Play.discover(1, 9).injectTo(x, SERVER);
        due.is("carry(0) comes there all the same", x.carry(0), SERVER);
        nothing(due, "DISCOVER", x);
        request(0, 9).ciaddr(3).end().bringTo(x, SERVER);
        nothing(due, "REQUEST", x);
        Msg.up(0, 9).kind(Msg.DECLINE).wanted(3).end().bringTo(x, SERVER);
        Msg.up(0, 9).ciaddr(3).kind(Msg.RELEASE).end().bringTo(x, SERVER);
        due.record("neither DECLINE nor RELEASE", x, 3, 2, 0, 20);
        x.down(true);
        Play.ticks(x, 2);
        x.down(false);
        due.is("count(3)", x.count(3), 1);
        x.down(false);
        due.is("count(3) again", x.count(3), 1);
        due.record("its records", x, 3, 2, 0, 20);
        Play.discover(0, 4).bringTo(x, SERVER);
        nothing(due, "nor the last xid", x);
        Play.discover(1, 8).bringTo(x, SERVER);
        answer(due, "but a xid of then is none that was looked at", x, 1, Play.offer(1, 8, 2, 20));
        relayWhileDown(due);
    }

    private static void relayWhileDown(Due due) {
        LeaseNet x = new LeaseNet();
        x.down(true);
        x.join(0, 1);
        due.is("relays are not down", x.run(1), 1);
        due.is("place", x.packet(0, -1), SERVER);
    }

    private static void free(Due due) {
        due.says("FREE, if it has no record, or one of a time that is not later than now");
        LeaseNet x = Play.with(2, 3, 20);
        due.is("no record", x.count(4), 2);
        Play.discover(0, 1).bringTo(x, SERVER);
        due.is("offered until 8", x.count(4), 1);
        Play.ticks(x, 7);
        due.is("at 7", x.count(4), 1);
        x.tick();
        due.is("at 8", x.count(4), 2);
        due.record("its record is there still", x, 2, 1, 0, 8);
        LeaseNet y = Play.with(2, 3, 20);
        Play.lend(y, 0, 1, 2);
        Play.ticks(y, 19);
        due.is("leased until 20, at 19", y.count(4), 1);
        y.tick();
        due.is("leased until 20, at 20", y.count(4), 2);
        LeaseNet z = Play.with(2, 3, 20);
        Play.lend(z, 0, 1, 2);
        Msg.up(0, 3).kind(Msg.DECLINE).wanted(2).end().bringTo(z, SERVER);
        Play.ticks(z, 99);
        due.is("declined until 100, at 99", z.count(4), 1);
        z.tick();
        due.is("declined until 100, at 100", z.count(4), 2);
    }

    /** Each subnet has another lease, so that an answer tells its subnet; -1 when there is no answer. */
    private static int subnetBy(int giaddr, int ciaddr) {
        LeaseNet x = new LeaseNet();
        for (int s = 0; s < 4; s++) {
            x.pool(s, 9, 9, 10 + s);
        }
        Msg.up(0, 1).giaddr(giaddr).ciaddr(ciaddr).kind(Msg.DISCOVER).end().bringTo(x, SERVER);
        return x.packets() == 0 ? -1 : x.packet(0, 27) - 10;
    }

    private static void subnetOfGiaddr(Due due) {
        due.says("S is the subnet of giaddr (it, moved right by 8 bits)");
        int[][] those = {{1, 0}, {255, 0}, {256, 1}, {257, 1}, {511, 1}, {512, 2}, {767, 2}, {768, 3}, {1023, 3},
            {1024, -1}, {1025, -1}, {1 << 16, -1}, {1 << 24, -1}, {Integer.MAX_VALUE, -1}, {-1, -1}, {-256, -1},
            {Integer.MIN_VALUE, -1}, {0x80000001, -1}, {0xFFFFFF01, -1}};
        for (int[] t : those) {
            due.is("subnet of giaddr " + t[0], subnetBy(t[0], 0), t[1]);
            due.is("subnet of giaddr " + t[0] + ", whatever ciaddr is", subnetBy(t[0], 600), t[1]);
        }
    }

    private static void subnetOfCiaddr(Due due) {
        due.says("with giaddr 0 that of ciaddr; with both 0 it is 0");
        int[][] those = {{0, 0}, {1, 0}, {255, 0}, {256, 1}, {511, 1}, {512, 2}, {768, 3}, {1023, 3}, {1024, -1},
            {1 << 24, -1}, {Integer.MAX_VALUE, -1}, {-1, -1}, {Integer.MIN_VALUE, -1}};
        for (int[] t : those) {
            due.is("subnet of ciaddr " + t[0], subnetBy(0, t[0]), t[1]);
        }
    }

    private static void noSuchClient(Due due) {
        due.says("It is not looked at, when there is no such client (CHADDR)");
        for (int client : new int[] {0, 11}) {
            LeaseNet x = Play.with(2, 9, 20);
            Play.discover(client, 1).bringTo(x, SERVER);
            answer(due, "chaddr " + client, x, client, Play.offer(client, 1, 2, 20));
        }
        for (int client : new int[] {12, 13, 16, 127, 128, 255}) {
            LeaseNet x = Play.with(2, 9, 20);
            Play.discover(client, 1).bringTo(x, SERVER);
            request(client, 1).wanted(200).server(1).end().bringTo(x, SERVER);
            nothing(due, "chaddr " + client, x);
            due.is("records", x.count(2), 0);
        }
    }

    private static void noPool(Due due) {
        due.says("It is not looked at, when there is no pool of it");
        for (int s = 0; s < 4; s++) {
            LeaseNet x = new LeaseNet();
            for (int other = 0; other < 4; other++) {
                if (other != s) {
                    x.pool(other, 2, 9, 20);
                }
            }
            int giaddr = 256 * s + 1;
            request(0, 5).giaddr(giaddr).wanted(giaddr + 1).server(1).end().bringTo(x, SERVER);
            request(0, 5).giaddr(giaddr).wanted(giaddr + 1).end().bringTo(x, SERVER);
            nothing(due, "not even NAK, on subnet " + s, x);
            x.pool(s, 2, 9, 20);
            request(0, 4).giaddr(giaddr).wanted(200).server(1).end().bringTo(x, SERVER);
            answer(due, "from now on, with any xid", x, s == 0 ? 0 : 12 + s, Play.nak(0, 4).giaddr(giaddr));
        }
    }

    private static void xids(Due due) {
        due.says("its xid is less than the last one that was looked at of this client");
        int[][] those = {{0, -1}, {1, 0}, {-5, -6}, {0, Integer.MIN_VALUE}, {Integer.MAX_VALUE, Integer.MIN_VALUE},
            {Integer.MAX_VALUE, Integer.MAX_VALUE - 1}, {Integer.MIN_VALUE + 1, Integer.MIN_VALUE}, {256, 255}};
        for (int[] t : those) {
            LeaseNet x = Play.with(2, 9, 20);
            Play.discover(0, t[0]).bringTo(x, SERVER);
            answer(due, "first " + t[0], x, 0, Play.offer(0, t[0], 2, 20));
            Play.discover(0, t[1]).bringTo(x, SERVER);
            nothing(due, t[1] + " is less than " + t[0], x);
            Play.discover(0, t[0]).bringTo(x, SERVER);
            answer(due, "the same is not less", x, 0, Play.offer(0, t[0], 2, 20));
            Play.discover(1, t[1]).bringTo(x, SERVER);
            answer(due, "nor is another client's", x, 1, Play.offer(1, t[1], 3, 20));
            LeaseNet y = Play.with(2, 9, 20);
            Play.discover(0, t[1]).bringTo(y, SERVER);
            Play.clear(y);
            Play.discover(0, t[0]).bringTo(y, SERVER);
            answer(due, t[0] + " is greater than " + t[1], y, 0, Play.offer(0, t[0], 2, 20));
        }
    }

    private static void firstXids(Due due) {
        due.says("at first it may be any");
        for (int xid : new int[] {Integer.MIN_VALUE, -1, 0, 1, Integer.MAX_VALUE}) {
            for (int client : new int[] {0, 11}) {
                LeaseNet x = Play.with(2, 9, 20);
                Play.discover(client, xid).bringTo(x, SERVER);
                answer(due, "xid " + xid, x, client, Play.offer(client, xid, 2, 20));
            }
        }
    }

    private static void whatDoesNotCount(Due due) {
        due.says("the last one that was looked at: one that was not looked at is not it");
        LeaseNet x = Play.with(2, 9, 20);
        Play.discover(0, 99).op(2).bringTo(x, SERVER);
        Play.discover(0, 99).giaddr(257).bringTo(x, SERVER);
        Play.discover(0, 99).giaddr(1024).bringTo(x, SERVER);
        Play.discover(0, 99).ciaddr(-1).bringTo(x, SERVER);
        Msg.up(0, 99).kind(Msg.DISCOVER).bringTo(x, SERVER);
        Play.discover(0, 5).bringTo(x, SERVER);
        answer(due, "after 99 five times", x, 0, Play.offer(0, 5, 2, 20));
        Play.discover(0, 4).bringTo(x, SERVER);
        Play.discover(0, 5).bringTo(x, SERVER);
        answer(due, "one that is less does not set it back", x, 0, Play.offer(0, 5, 2, 20));
    }

    private static void whereAnswersGo(Due due) {
        due.says("to the relay of giaddr's subnet (with giaddr 0, or of subnet 0: to the client)");
        int[][] those = {{0, 11}, {1, 11}, {2, 11}, {255, 11}, {256, 13}, {257, 13}, {511, 13}, {512, 14}, {767, 14},
            {768, 15}, {1023, 15}};
        for (int[] t : those) {
            LeaseNet x = new LeaseNet();
            for (int s = 0; s < 4; s++) {
                x.pool(s, 2, 9, 20);
            }
            int own = 256 * (t[0] >> 8) + 2;
            Play.discover(11, 1).giaddr(t[0]).bringTo(x, SERVER);
            answer(due, "OFFER, giaddr " + t[0], x, t[1], Play.offer(11, 1, own, 20).giaddr(t[0]));
            request(11, 2).giaddr(t[0]).wanted(own).server(1).end().bringTo(x, SERVER);
            answer(due, "ACK, giaddr " + t[0], x, t[1], Play.ack(11, 2, own, 20).giaddr(t[0]));
            request(11, 3).giaddr(t[0]).wanted(own + 8).server(1).end().bringTo(x, SERVER);
            answer(due, "NAK, giaddr " + t[0], x, t[1], Play.nak(11, 3).giaddr(t[0]));
        }
        LeaseNet y = new LeaseNet();
        y.pool(3, 2, 9, 20);
        request(11, 1).ciaddr(768 + 20).end().bringTo(y, SERVER);
        answer(due, "giaddr 0, the subnet of ciaddr is 3", y, 11, Play.nak(11, 1));
    }

    private static void ownRecord(Due due) {
        due.says("the least address of the pool with a record of this client");
        for (int own : new int[] {2, 3, 8, 9}) {
            LeaseNet x = Play.with(2, 9, 20);
            Play.lend(x, 0, 1, own);
            Msg.up(0, 3).kind(Msg.DISCOVER).wanted(5).end().bringTo(x, SERVER);
            answer(due, "before wanted", x, 0, Play.offer(0, 3, own, 20));
            Play.ticks(x, 20);
            Msg.up(0, 4).kind(Msg.DISCOVER).wanted(5).end().bringTo(x, SERVER);
            answer(due, "even when its time is past", x, 0, Play.offer(0, 4, own, 20));
            x.pool(0, own == 2 ? 3 : 2, own == 2 ? 9 : own - 1, 20);
            Play.discover(0, 5).bringTo(x, SERVER);
            answer(due, "one beside the pool is none", x, 0, Play.offer(0, 5, own == 2 ? 3 : 2, 20));
        }
        LeaseNet two = Play.with(6, 6, 20);
        Play.lend(two, 0, 1, 6);
        two.pool(0, 4, 4, 20);
        Play.lend(two, 0, 3, 4);
        two.pool(0, 2, 9, 20);
        Play.discover(0, 5).bringTo(two, SERVER);
        answer(due, "of two the least", two, 0, Play.offer(0, 5, 4, 20));
        Play.ticks(two, 20);
        Msg.up(1, 1).kind(Msg.DISCOVER).wanted(4).end().bringTo(two, SERVER);
        Play.clear(two);
        Play.discover(0, 6).bringTo(two, SERVER);
        answer(due, "one that went to another is its no more", two, 0, Play.offer(0, 6, 6, 20));
    }

    private static void wanted(Due due) {
        due.says("wanted, if it is in the pool and free");
        int[][] those = {{4, 4}, {5, 5}, {7, 7}, {3, 4}, {8, 4}, {0, 4}, {1, 4}, {256 + 5, 4}, {1024 + 5, 4}, {-5, 4},
            {Integer.MIN_VALUE + 5, 4}, {Integer.MAX_VALUE, 4}};
        for (int[] t : those) {
            LeaseNet x = Play.with(4, 7, 20);
            Msg.up(0, 1).kind(Msg.DISCOVER).wanted(t[0]).end().bringTo(x, SERVER);
            answer(due, "wanted " + t[0], x, 0, Play.offer(0, 1, t[1], 20));
            due.record("its record", x, t[1], 1, 0, 8);
        }
        for (int time : new int[] {7, 8}) {
            LeaseNet x = Play.with(4, 7, 20);
            Msg.up(0, 1).kind(Msg.DISCOVER).wanted(6).end().bringTo(x, SERVER);
            Play.clear(x);
            Play.ticks(x, time);
            Msg.up(1, 1).kind(Msg.DISCOVER).wanted(6).end().bringTo(x, SERVER);
            answer(due, "another's until 8, at " + time, x, 1, Play.offer(1, 1, time == 8 ? 6 : 4, 20));
        }
    }

    private static void withoutRecord(Due due) {
        due.says("the least of the pool without a record");
        LeaseNet x = Play.with(2, 4, 20);
        for (int c = 0; c < 3; c++) {
            Play.discover(c, 1).bringTo(x, SERVER);
            answer(due, "client " + c, x, c, Play.offer(c, 1, 2 + c, 20));
        }
        request(1, 2).server(9).end().bringTo(x, SERVER);
        Play.discover(4, 1).bringTo(x, SERVER);
        answer(due, "one that has none any more", x, 4, Play.offer(4, 1, 3, 20));
        LeaseNet y = Play.with(2, 4, 20);
        Play.discover(0, 1).bringTo(y, SERVER);
        Play.discover(1, 1).bringTo(y, SERVER);
        Play.clear(y);
        Play.ticks(y, 100);
        Play.discover(2, 1).bringTo(y, SERVER);
        answer(due, "before those that are free by their time", y, 2, Play.offer(2, 1, 4, 20));
        LeaseNet z = Play.with(2, 3, 20);
        Play.lend(z, 0, 1, 2);
        Msg.up(0, 3).ciaddr(2).kind(Msg.RELEASE).end().bringTo(z, SERVER);
        due.record("a record of time 0", z, 2, 2, 0, 0);
        Play.discover(1, 1).bringTo(z, SERVER);
        answer(due, "before one whose time is 0", z, 1, Play.offer(1, 1, 3, 20));
    }

    private static void leastTime(Due due) {
        due.says("of those in the pool that are free the one whose time is least (of several the least)");
        LeaseNet x = Play.with(2, 5, 20);
        Msg.up(0, 1).kind(Msg.DISCOVER).wanted(4).end().bringTo(x, SERVER);
        Msg.up(1, 1).kind(Msg.DISCOVER).wanted(5).end().bringTo(x, SERVER);
        x.tick();
        Msg.up(2, 1).kind(Msg.DISCOVER).wanted(2).end().bringTo(x, SERVER);
        Msg.up(3, 1).kind(Msg.DISCOVER).wanted(3).end().bringTo(x, SERVER);
        Play.clear(x);
        Play.ticks(x, 8);
        int[] want = {4, 5, 2, 3};
        for (int i = 0; i < 4; i++) {
            Play.discover(4 + i, 1).bringTo(x, SERVER);
            answer(due, "taken as number " + i, x, 4 + i, Play.offer(4 + i, 1, want[i], 20));
            due.record("it has gone over", x, want[i], 1, 4 + i, 17);
        }
        int[][] orders = {{2, 3, 4}, {2, 4, 3}, {3, 2, 4}, {3, 4, 2}, {4, 2, 3}, {4, 3, 2}};
        for (int[] order : orders) {
            isTakenInOrder(due, order);
        }
        besideThePool(due);
    }

    /** Addresses that are offered one after another are free in that order, and so they are taken. */
    private static void isTakenInOrder(Due due, int[] order) {
        LeaseNet x = Play.with(2, 4, 20);
        for (int i = 0; i < 3; i++) {
            Msg.up(i, 1).kind(Msg.DISCOVER).wanted(order[i]).end().bringTo(x, SERVER);
            x.tick();
        }
        Play.clear(x);
        Play.ticks(x, 20);
        for (int i = 0; i < 3; i++) {
            Play.discover(3 + i, 1).bringTo(x, SERVER);
            answer(due, "taken as number " + i, x, 3 + i, Play.offer(3 + i, 1, order[i], 20));
        }
    }

    private static void besideThePool(Due due) {
        LeaseNet y = Play.with(5, 6, 20);
        Play.discover(0, 1).bringTo(y, SERVER);
        y.tick();
        Play.discover(1, 1).bringTo(y, SERVER);
        Play.clear(y);
        Play.ticks(y, 7);
        y.pool(0, 6, 6, 20);
        Play.discover(2, 1).bringTo(y, SERVER);
        nothing(due, "one beside the pool does not count", y);
        y.tick();
        Play.discover(2, 1).bringTo(y, SERVER);
        answer(due, "one that is in the pool does", y, 2, Play.offer(2, 1, 6, 20));
    }

    private static void fullPool(Due due) {
        due.says("With none: nothing");
        LeaseNet x = Play.with(250, 250, 8);
        Play.lend(x, 0, 1, 250);
        due.is("free", x.count(4), 0);
        Play.discover(1, 5).bringTo(x, SERVER);
        nothing(due, "a pool of one, leased", x);
        due.is("records", x.count(2), 1);
        Play.discover(1, 4).bringTo(x, SERVER);
        Play.ticks(x, 7);
        Play.discover(1, 5).bringTo(x, SERVER);
        nothing(due, "at 7", x);
        x.tick();
        Play.discover(1, 4).bringTo(x, SERVER);
        nothing(due, "its xid was looked at all the same", x);
        Play.discover(1, 5).bringTo(x, SERVER);
        answer(due, "at 8", x, 1, Play.offer(1, 5, 250, 8));
        LeaseNet all = Play.with(2, 12, 20);
        for (int c = 0; c < 12; c++) {
            Play.discover(c, 1).bringTo(all, SERVER);
        }
        due.is("11 hosts for 12 clients", all.packets(), 11);
        due.is("11 records", all.count(2), 11);
    }

    private static void leasedStill(Due due) {
        due.says("If that is not leased to this client until later than now: OFFERED, until 8 ticks from now");
        for (int time : new int[] {0, 1, 19, 20, 21}) {
            LeaseNet x = Play.with(2, 5, 20);
            Play.lend(x, 0, 1, 3);
            Play.ticks(x, time);
            Play.discover(0, 3).bringTo(x, SERVER);
            answer(due, "at " + time, x, 0, Play.offer(0, 3, 3, 20));
            if (time < 20) {
                due.record("leased until 20, at " + time, x, 3, 2, 0, 20);
            } else {
                due.record("leased until 20, at " + time, x, 3, 1, 0, time + 8);
            }
        }
        LeaseNet y = Play.with(2, 5, 20);
        Play.discover(0, 1).bringTo(y, SERVER);
        Play.ticks(y, 3);
        Play.discover(0, 1).bringTo(y, SERVER);
        due.record("one that is offered is offered anew", y, 2, 1, 0, 11);
    }

    private static void requestOfServer1(Due due) {
        due.says("REQUEST with server 1: if wanted is in the pool, with a record of this client; otherwise NAK");
        for (int wanted : new int[] {0, 1, 3, 5, 8, 9, 258, 1024, 1028, -4, Integer.MIN_VALUE, Integer.MAX_VALUE}) {
            LeaseNet x = Play.with(4, 7, 20);
            Play.discover(0, 1).bringTo(x, SERVER);
            Play.clear(x);
            request(0, 2).wanted(wanted).server(1).end().bringTo(x, SERVER);
            answer(due, "wanted " + wanted, x, 0, Play.nak(0, 2));
            due.record("as it was", x, 4, 1, 0, 8);
            due.is("records", x.count(2), 1);
        }
        for (int own : new int[] {4, 5, 7}) {
            LeaseNet x = Play.with(4, 7, 20);
            Msg.up(0, 1).kind(Msg.DISCOVER).wanted(own).end().bringTo(x, SERVER);
            Play.clear(x);
            request(1, 2).wanted(own).server(1).end().bringTo(x, SERVER);
            answer(due, "another's", x, 1, Play.nak(1, 2));
            request(0, 2).wanted(own).server(1).end().bringTo(x, SERVER);
            answer(due, "its own", x, 0, Play.ack(0, 2, own, 20));
            x.pool(0, own == 4 ? 5 : 4, own == 4 ? 7 : own - 1, 20);
            request(0, 2).wanted(own).server(1).end().bringTo(x, SERVER);
            answer(due, "its own, beside the pool", x, 0, Play.nak(0, 2));
            due.record("which is leased still", x, own, 2, 0, 20);
        }
    }

    private static void requestInTime(Due due) {
        due.says("REQUEST with server 1: a record until later than now");
        for (int time : new int[] {0, 7, 8, 9}) {
            LeaseNet x = Play.with(2, 5, 20);
            Play.discover(0, 1).bringTo(x, SERVER);
            Play.clear(x);
            Play.ticks(x, time);
            request(0, 2).wanted(2).server(1).end().bringTo(x, SERVER);
            answer(due, "offered until 8, at " + time, x, 0, time < 8 ? Play.ack(0, 2, 2, 20) : Play.nak(0, 2));
            due.record("offered until 8, at " + time, x, 2, time < 8 ? 2 : 1, 0, time < 8 ? time + 20 : 8);
        }
        for (int time : new int[] {19, 20}) {
            LeaseNet x = Play.with(2, 5, 20);
            Play.lend(x, 0, 1, 2);
            Play.ticks(x, time);
            request(0, 3).wanted(2).server(1).end().bringTo(x, SERVER);
            answer(due, "leased until 20, at " + time, x, 0, time < 20 ? Play.ack(0, 3, 2, 20) : Play.nak(0, 3));
            due.record("leased until 20, at " + time, x, 2, 2, 0, time < 20 ? 39 : 20);
        }
    }

    private static void leaseThatIsLater(Due due) {
        due.says("until now and the lease (or as long as it was LEASED, if that is later)");
        for (int time : new int[] {0, 89, 90, 91}) {
            for (int server = 0; server <= 1; server++) {
                LeaseNet x = Play.with(2, 5, 100);
                Play.lend(x, 0, 1, 2);
                x.pool(0, 2, 5, 10);
                Play.ticks(x, time);
                request(0, 3).wanted(2).server(server).end().bringTo(x, SERVER);
                answer(due, "the lease of now, at " + time, x, 0, Play.ack(0, 3, 2, 10));
                due.record("leased until 100, for 10 more, at " + time, x, 2, 2, 0, Math.max(100, time + 10));
            }
        }
        LeaseNet y = Play.with(2, 5, 8);
        Play.discover(0, 1).bringTo(y, SERVER);
        Play.clear(y);
        request(0, 2).wanted(2).server(1).end().bringTo(y, SERVER);
        due.record("the least lease, as long as it was offered", y, 2, 2, 0, 8);
    }

    private static void requestOfAnotherServer(Due due) {
        due.says("With another server (not 0): the least address of the pool with a record of this client, if OFFERED");
        for (int server : new int[] {2, 255, 256, 257, -1, Integer.MIN_VALUE, Integer.MAX_VALUE}) {
            LeaseNet x = Play.with(2, 5, 20);
            Msg.up(0, 1).kind(Msg.DISCOVER).wanted(5).end().bringTo(x, SERVER);
            Msg.up(1, 1).kind(Msg.DISCOVER).wanted(2).end().bringTo(x, SERVER);
            Play.clear(x);
            request(0, 2).wanted(2).server(server).end().bringTo(x, SERVER);
            nothing(due, "server " + server, x);
            due.record("has none any more", x, 5, 0, -1, 0);
            due.record("another's stays", x, 2, 1, 1, 8);
            due.is("records", x.count(2), 1);
            request(0, 2).wanted(2).server(server).end().bringTo(x, SERVER);
            nothing(due, "with no record", x);
            due.is("records", x.count(2), 1);
        }
        LeaseNet y = Play.with(2, 5, 20);
        Play.lend(y, 0, 1, 2);
        request(0, 3).wanted(2).server(2).end().bringTo(y, SERVER);
        due.record("a leased one stays", y, 2, 2, 0, 20);
        Play.ticks(y, 20);
        request(0, 3).wanted(2).server(2).end().bringTo(y, SERVER);
        due.record("even when its time is past", y, 2, 2, 0, 20);
        leastOfTwo(due);
        LeaseNet z = Play.with(4, 4, 20);
        Play.discover(0, 1).bringTo(z, SERVER);
        z.pool(0, 3, 3, 20);
        Play.lend(z, 0, 2, 3);
        z.pool(0, 2, 5, 20);
        request(0, 4).server(2).end().bringTo(z, SERVER);
        due.record("of two the least, which is leased", z, 3, 2, 0, 20);
        due.record("so that the other stays", z, 4, 1, 0, 8);
    }

    private static void leastOfTwo(Due due) {
        LeaseNet x = Play.with(4, 4, 20);
        Play.discover(0, 1).bringTo(x, SERVER);
        x.pool(0, 3, 3, 20);
        Play.discover(0, 2).bringTo(x, SERVER);
        Play.clear(x);
        x.pool(0, 2, 5, 20);
        request(0, 3).server(2).end().bringTo(x, SERVER);
        due.record("of two the least", x, 3, 0, -1, 0);
        due.record("the other stays", x, 4, 1, 0, 8);
        x.pool(0, 5, 5, 20);
        request(0, 3).server(2).end().bringTo(x, SERVER);
        due.record("one beside the pool stays", x, 4, 1, 0, 8);
        Play.ticks(x, 9);
        x.pool(0, 2, 5, 20);
        request(0, 3).server(2).end().bringTo(x, SERVER);
        due.record("one whose time is past goes too", x, 4, 0, -1, 0);
    }

    private static void requestWithoutServer(Due due) {
        due.says("not in the pool: NAK; of this client: ACK; without a record: nothing; otherwise NAK");
        for (int a : new int[] {0, 1, 3, 8, 255, 258, 1024, 1028, -4, Integer.MIN_VALUE, Integer.MAX_VALUE}) {
            LeaseNet x = Play.with(4, 7, 20);
            request(0, 1).wanted(a).end().bringTo(x, SERVER);
            answer(due, "wanted " + a + " is not in the pool", x, 0, Play.nak(0, 1));
            request(0, 1).wanted(a).server(0).end().bringTo(x, SERVER);
            answer(due, "wanted " + a + " with server 0", x, 0, Play.nak(0, 1));
            due.is("records", x.count(2), 0);
        }
        for (int a : new int[] {4, 5, 7}) {
            LeaseNet x = Play.with(4, 7, 20);
            request(0, 1).wanted(a).end().bringTo(x, SERVER);
            nothing(due, a + " without a record", x);
            due.is("and none is made", x.count(2), 0);
            Play.lend(x, 0, 1, a);
            Play.ticks(x, 5);
            request(1, 1).wanted(a).end().bringTo(x, SERVER);
            answer(due, a + " is another's", x, 1, Play.nak(1, 1));
            request(0, 3).wanted(a).end().bringTo(x, SERVER);
            answer(due, a + " is its own", x, 0, Play.ack(0, 3, a, 20));
            due.record("for longer", x, a, 2, 0, 25);
            Play.ticks(x, 20);
            request(1, 1).wanted(a).end().bringTo(x, SERVER);
            answer(due, a + " is another's, though it is past", x, 1, Play.nak(1, 1));
            request(0, 3).wanted(a).end().bringTo(x, SERVER);
            answer(due, a + " is its own, though it is past", x, 0, Play.ack(0, 3, a, 20));
            due.record("leased again", x, a, 2, 0, 45);
            Msg.up(0, 4).kind(Msg.DECLINE).wanted(a).end().bringTo(x, SERVER);
            request(0, 4).wanted(a).end().bringTo(x, SERVER);
            answer(due, a + " is of no client", x, 0, Play.nak(0, 4));
            due.record("and stays so", x, a, 3, -1, 125);
        }
        LeaseNet offered = Play.with(4, 7, 20);
        Play.discover(0, 1).bringTo(offered, SERVER);
        Play.clear(offered);
        request(0, 2).ciaddr(4).end().bringTo(offered, SERVER);
        answer(due, "one that is offered to it", offered, 0, Play.ack(0, 2, 4, 20));
    }

    private static void ciaddrOrWanted(Due due) {
        due.says("A is ciaddr, if that is not 0, otherwise wanted");
        LeaseNet x = Play.with(4, 7, 20);
        Play.lend(x, 0, 1, 5);
        request(0, 3).ciaddr(5).wanted(9).end().bringTo(x, SERVER);
        answer(due, "ciaddr 5, wanted 9", x, 0, Play.ack(0, 3, 5, 20));
        request(0, 3).ciaddr(9).wanted(5).end().bringTo(x, SERVER);
        answer(due, "ciaddr 9, wanted 5", x, 0, Play.nak(0, 3));
        request(0, 3).ciaddr(6).wanted(5).end().bringTo(x, SERVER);
        nothing(due, "ciaddr 6, wanted 5", x);
        request(0, 3).ciaddr(0).wanted(5).end().bringTo(x, SERVER);
        answer(due, "ciaddr 0, wanted 5", x, 0, Play.ack(0, 3, 5, 20));
        request(0, 3).end().bringTo(x, SERVER);
        answer(due, "neither", x, 0, Play.nak(0, 3));
        request(0, 3).giaddr(1).ciaddr(-1).wanted(5).end().bringTo(x, SERVER);
        answer(due, "ciaddr -1, wanted 5", x, 0, Play.nak(0, 3).giaddr(1));
    }

    private static void decline(Due due) {
        due.says("DECLINE: wanted, if it has a record of this client, becomes DECLINED until 100 ticks from now");
        for (int wanted : new int[] {0, 2, 4, 1024, 1027, -3, Integer.MIN_VALUE, Integer.MAX_VALUE}) {
            LeaseNet x = Play.with(2, 5, 20);
            Play.lend(x, 0, 1, 3);
            Msg.up(0, 3).ciaddr(3).kind(Msg.DECLINE).wanted(wanted).end().bringTo(x, SERVER);
            nothing(due, "wanted " + wanted, x);
            due.record("wanted " + wanted, x, 3, 2, 0, 20);
            due.is("records", x.count(2), 1);
        }
        LeaseNet x = Play.with(2, 5, 20);
        Play.lend(x, 0, 1, 3);
        Msg.up(1, 3).kind(Msg.DECLINE).wanted(3).end().bringTo(x, SERVER);
        due.record("another's", x, 3, 2, 0, 20);
        Play.ticks(x, 7);
        Msg.up(0, 3).kind(Msg.DECLINE).wanted(3).end().bringTo(x, SERVER);
        nothing(due, "DECLINE", x);
        due.record("at 7", x, 3, 3, -1, 107);
        x.tick();
        Msg.up(0, 3).kind(Msg.DECLINE).wanted(3).end().bringTo(x, SERVER);
        due.record("it is of no client", x, 3, 3, -1, 107);
        LeaseNet past = Play.with(2, 5, 20);
        Play.lend(past, 0, 1, 3);
        Play.ticks(past, 25);
        Msg.up(0, 3).kind(Msg.DECLINE).wanted(3).end().bringTo(past, SERVER);
        due.record("one whose time is past", past, 3, 3, -1, 125);
        LeaseNet beside = Play.with(2, 5, 20);
        Play.lend(beside, 0, 1, 3);
        beside.pool(0, 4, 5, 20);
        Msg.up(0, 3).kind(Msg.DECLINE).wanted(3).end().bringTo(beside, SERVER);
        due.record("one beside the pool", beside, 3, 3, -1, 100);
    }

    private static void release(Due due) {
        due.says("RELEASE: ciaddr, if it is LEASED to this client: its time becomes now");
        for (int ciaddr : new int[] {0, 2, 4, 1024, 1027, -3, Integer.MIN_VALUE, Integer.MAX_VALUE}) {
            LeaseNet x = Play.with(2, 5, 20);
            Play.lend(x, 0, 1, 3);
            Msg.up(0, 3).giaddr(1).ciaddr(ciaddr).kind(Msg.RELEASE).wanted(3).end().bringTo(x, SERVER);
            nothing(due, "ciaddr " + ciaddr, x);
            due.record("ciaddr " + ciaddr, x, 3, 2, 0, 20);
            due.is("records", x.count(2), 1);
        }
        LeaseNet x = Play.with(2, 5, 20);
        Play.lend(x, 0, 1, 3);
        Play.ticks(x, 6);
        Msg.up(1, 3).ciaddr(3).kind(Msg.RELEASE).end().bringTo(x, SERVER);
        due.record("another's", x, 3, 2, 0, 20);
        Msg.up(0, 3).ciaddr(3).kind(Msg.RELEASE).end().bringTo(x, SERVER);
        nothing(due, "RELEASE", x);
        due.record("at 6", x, 3, 2, 0, 6);
        due.is("free at once", x.count(4), 4);
        due.is("but a record", x.count(2), 1);
        Play.discover(1, 3).bringTo(x, SERVER);
        Play.clear(x);
        Msg.up(1, 3).ciaddr(2).kind(Msg.RELEASE).end().bringTo(x, SERVER);
        due.record("one that is OFFERED is not LEASED", x, 2, 1, 1, 14);
        LeaseNet past = Play.with(2, 5, 20);
        Play.lend(past, 0, 1, 3);
        Play.ticks(past, 25);
        Msg.up(0, 3).ciaddr(3).kind(Msg.RELEASE).end().bringTo(past, SERVER);
        due.record("one whose time is past", past, 3, 2, 0, 25);
        LeaseNet beside = Play.with(2, 5, 20);
        Play.lend(beside, 0, 1, 3);
        beside.pool(0, 4, 5, 20);
        Msg.up(0, 3).ciaddr(3).kind(Msg.RELEASE).end().bringTo(beside, SERVER);
        due.record("one beside the pool", beside, 3, 2, 0, 0);
    }

    private static void others(Due due) {
        due.says("Others: nothing");
        for (int kind : new int[] {0, 2, 5, 6, 8, 127, 128, 254, 255}) {
            LeaseNet x = Play.with(2, 5, 20);
            Play.lend(x, 0, 1, 3);
            Msg.up(0, 3).ciaddr(3).kind(kind).wanted(3).server(1).end().bringTo(x, SERVER);
            Msg.up(1, 3).kind(kind).end().bringTo(x, SERVER);
            nothing(due, "type " + kind, x);
            due.record("type " + kind, x, 3, 2, 0, 20);
            due.is("records", x.count(2), 1);
            Play.discover(1, 2).bringTo(x, SERVER);
            nothing(due, "but its xid, 3, was looked at", x);
        }
        LeaseNet y = Play.with(2, 5, 20);
        Msg.up(0, 3).wanted(3).server(1).end().bringTo(y, SERVER);
        nothing(due, "no type", y);
    }

    private static void recordsOfNone(Due due) {
        due.says("the state of its record (0 without one), its client (-1 of none), until when (0 without a record)");
        LeaseNet x = Play.with(2, 2, 20);
        due.record("at first", x, 2, 0, -1, 0);
        Play.ticks(x, 5);
        due.record("at 5", x, 2, 0, -1, 0);
        Play.discover(0, 1).bringTo(x, SERVER);
        due.record("client 0 is one", x, 2, 1, 0, 13);
        request(0, 2).server(7).end().bringTo(x, SERVER);
        due.record("without one again", x, 2, 0, -1, 0);
        Play.clear(x);
        Play.lend(x, 11, 1, 2);
        due.record("client 11", x, 2, 2, 11, 25);
        Msg.up(11, 3).kind(Msg.DECLINE).wanted(2).end().bringTo(x, SERVER);
        due.record("of no client", x, 2, 3, -1, 105);
    }

    private static void counts(Due due) {
        due.says("2 records, 4 addresses of pools that are free");
        LeaseNet x = new LeaseNet();
        due.is("no pools", x.count(4), 0);
        for (int s = 0; s < 4; s++) {
            x.pool(s, 2, 250, 8);
        }
        due.is("as many as can be", x.count(4), 4 * 249);
        for (int s = 0; s < 4; s++) {
            Play.discover(s, 1).giaddr(256 * s + 1).bringTo(x, SERVER);
        }
        due.is("records, one a subnet", x.count(2), 4);
        due.is("free", x.count(4), 4 * 248);
        for (int s = 0; s < 4; s++) {
            x.pool(s, 3, 250, 8);
        }
        due.is("records beside the pools count", x.count(2), 4);
        due.is("addresses beside the pools do not", x.count(4), 4 * 248);
        Play.ticks(x, 8);
        due.is("records that are past count", x.count(2), 4);
        due.is("free", x.count(4), 4 * 248);
    }
}
