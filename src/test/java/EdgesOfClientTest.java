import java.util.ArrayList;
import java.util.List;

/** The edges of what a client hears, says and waits for, sentence by sentence. */
final class EdgesOfClientTest {
    /** The states in which a client waits for an ACK or a NAK. */
    private static final String AWAITING = "2456";

    public static void main(String[] args) {
        Due due = new Due("EdgesOfClientTest");
        time(due);
        xids(due);
        uses(due);
        firstParts(due);
        lastTry(due);
        offKeeps(due);
        again(due);
        begins(due);
        numberAndXid(due);
        otherOps(due);
        offerStates(due);
        offerNumbers(due);
        ackStates(due);
        ackAddresses(due);
        ackLeases(due);
        ackInTime(due);
        strangers(due);
        nakStates(due);
        ends(due);
        renewals(due);
        oneStepATick(due);
        halves(due);
        tries(due);
        behindTry3(due);
        boundAsBefore(due);
        waiting(due);
        offInTicks(due);
        release(due);
        due.end();
    }

    private static boolean awaits(int state) {
        return AWAITING.indexOf('0' + state) >= 0;
    }

    private static Msg offer(int xid, int address, int server) {
        return Msg.downTo(0, xid).yiaddr(address).kind(Msg.OFFER).server(server).end();
    }

    private static Msg ack(int xid, int address, int lease) {
        return Msg.downTo(0, xid).yiaddr(address).kind(Msg.ACK).lease(lease).end();
    }

    /** What client 0 shows, its state first. */
    private static int[] parts(LeaseNet x) {
        int[] all = new int[7];
        for (int what = 0; what <= 6; what++) {
            all[what] = x.client(0, what);
        }
        return all;
    }

    /** Client 0 does not look at it: nothing changes, and nothing is sent. */
    private static void deaf(Due due, String what, LeaseNet x, Msg message) {
        int[] before = parts(x);
        int packets = x.packets();
        message.bringTo(x, 0);
        due.client(what, x, 0, before);
        due.is(what + ": packets()", x.packets(), packets);
    }

    private static void time(Due due) {
        due.says("TIME is a number of ticks, 0 at first");
        LeaseNet x = new LeaseNet();
        due.is("count(0)", x.count(0), 0);
        LeaseNet y = new LeaseNet();
        for (int t = 1; t <= 512; t++) {
            due.is("tick() as call " + t, y.tick(), t);
        }
    }

    private static void xids(Due due) {
        due.says("Each message that it sends has an xid 1 greater than its last one (1 at first)");
        LeaseNet x = new LeaseNet();
        due.is("none at first", x.client(0, 4), 0);
        x.join(0, 1);
        due.is("the first", x.packet(0, 5), 1);
        x.off(0);
        x.join(0, 2);
        due.is("the second, though it was OFF", x.packet(1, 5), 2);
        Play.clear(x);
        Play.offer(0, 2, 9, 20).bringTo(x, 0);
        Play.ack(0, 3, 9, 20).bringTo(x, 0);
        due.is("an ACK is not answered", x.client(0, 4), 3);
        x.leave(0);
        due.is("RELEASE has one too", x.client(0, 4), 4);
        x.join(0, 0);
        due.is("as the next one", x.client(0, 4), 5);
        Play.clear(x);
        Play.fill(x, 60);
        Play.ticks(x, 4);
        due.is("and one that is lost", x.client(0, 4), 6);
        Play.clear(x);
        Play.ticks(x, 8);
        due.is("which is not sent again", x.packet(0, 5), 7);
    }

    private static void uses(Due due) {
        due.says("It USES its address in 3, 4, 5");
        for (int state = 0; state <= 7; state++) {
            LeaseNet x = Play.inState(state);
            due.is("state", x.client(0, 0), state);
            due.is("address in " + state, x.client(0, 1), state >= 3 && state <= 6 ? 300 : 0);
            due.is("address that it uses in " + state, x.client(0, 3), state >= 3 && state <= 5 ? 300 : 0);
        }
    }

    private static void firstParts(Due due) {
        due.says("address (0 for none), end (0 without address), last xid (0 at first), try (0 at first)");
        due.client("at first", new LeaseNet(), 0, 0, 0, 0, 0, 0, 0, 0);
        for (int state : new int[] {Play.SELECTING, Play.REQUESTING, Play.WAITING}) {
            due.is("end in " + state, Play.inState(state).client(0, 2), 0);
        }
        LeaseNet left = Play.inState(Play.BOUND);
        left.leave(0);
        due.client("left", left, 0, 0, 0, 0, 0, 3, 1, 1);
        LeaseNet late = Play.inState(Play.BOUND);
        Play.ticks(late, 80);
        due.client("at its end", late, 0, 1, 0, 0, 0);
    }

    private static void lastTry(Due due) {
        due.says("its try (the last one that it had)");
        LeaseNet x = Play.requesting(0, 1, 300, 1);
        Play.ticks(x, 12);
        Play.clear(x);
        due.is("requesting", x.client(0, 5), 3);
        ack(4, 300, 80).bringTo(x, 0);
        due.is("bound", x.client(0, 5), 3);
        Play.ticks(x, 40);
        due.client("renewing", x, 0, 4, 300, 92, 300, 5, 3, 1);
        x.off(0);
        due.is("off", x.client(0, 5), 3);
        x.join(0, 1);
        due.is("rebooting", x.client(0, 5), 1);
        Play.ticks(x, 4);
        x.strange(300, true);
        ack(7, 300, 80).bringTo(x, 0);
        due.client("waiting", x, 0, 7, 0, 0, 0, 8, 2, 1);
        Play.ticks(x, 10);
        due.client("selecting", x, 0, 1, 0, 0, 0, 9, 1, 1);
    }

    private static void offKeeps(Due due) {
        due.says("A client is OFF; it keeps its address and its end");
        for (int state : new int[] {Play.BOUND, Play.RENEWING, Play.REBINDING, Play.REBOOTING}) {
            LeaseNet x = Play.inState(state);
            int xid = x.client(0, 4);
            x.off(0);
            due.client("off, of " + state, x, 0, 0, 300, 80, 0, xid, 1, 1);
            Play.ticks(x, 200);
            due.client("even when its end is past", x, 0, 0, 300, 80, 0, xid, 1, 1);
        }
    }

    private static void again(Due due) {
        due.says("if it has an address whose end is later than now: REBOOTING, try 1; otherwise it begins");
        for (int time : new int[] {0, 1, 78, 79, 80, 81}) {
            LeaseNet x = Play.inState(Play.BOUND);
            x.off(0);
            Play.ticks(x, time);
            x.join(0, 3);
            if (time < 80) {
                due.client("its end is 80, at " + time, x, 0, 6, 300, 80, 0, 3, 1, 3);
                due.packet("it broadcasts REQUEST, wanted", x, 0, 15, Msg.up(0, 3).kind(3).wanted(300).end());
            } else {
                due.client("its end is 80, at " + time, x, 0, 1, 0, 0, 0, 3, 1, 3);
                due.packet("it broadcasts DISCOVER", x, 0, 15, Play.discover(0, 3));
            }
            due.is("packets()", x.packets(), 1);
        }
        LeaseNet odd = Play.bound(0, 1, Integer.MIN_VALUE, 80);
        odd.off(0);
        odd.join(0, 1);
        due.client("any address but 0 is one", odd, 0, 6, Integer.MIN_VALUE, 80, 0, 3, 1, 1);
    }

    private static void begins(Due due) {
        due.says("To BEGIN: SELECTING, try 1: it broadcasts DISCOVER");
        LeaseNet x = new LeaseNet();
        x.join(0, 3);
        due.client("at first", x, 0, 1, 0, 0, 0, 1, 1, 3);
        Play.ticks(x, 12);
        due.client("in try 3", x, 0, 1, 0, 0, 0, 3, 3, 3);
        x.off(0);
        x.join(0, 2);
        due.client("in try 1 again", x, 0, 1, 0, 0, 0, 4, 1, 2);
        due.packet("DISCOVER", x, 3, 14, Play.discover(0, 4));
    }

    private static void numberAndXid(Due due) {
        due.says("A message with op 2, its number and its last xid");
        for (int other : new int[] {1, 11, 12, 255}) {
            deaf(due, "another's OFFER", Play.inState(1), Msg.downTo(other, 1).yiaddr(9).kind(2).server(1).end());
            deaf(due, "another's ACK", Play.inState(2), Msg.downTo(other, 2).yiaddr(9).kind(5).lease(9).end());
            deaf(due, "another's NAK", Play.inState(2), Play.nak(other, 2));
        }
        for (int xid : new int[] {0, 1, 3, -2, 2 + 256, 2 + (1 << 16), 2 + (1 << 24), Integer.MIN_VALUE + 2}) {
            deaf(due, "ACK of xid " + xid, Play.inState(2), ack(xid, 9, 50));
            deaf(due, "NAK of xid " + xid, Play.inState(2), Play.nak(0, xid));
            deaf(due, "OFFER of xid " + (xid - 1), Play.inState(1), offer(xid - 1, 9, 1));
        }
        LeaseNet x = Play.inState(Play.SELECTING);
        Play.ticks(x, 4);
        deaf(due, "OFFER of its xid before the last", x, offer(1, 9, 1));
        offer(2, 9, 1).bringTo(x, 0);
        due.is("OFFER of its last", x.client(0, 0), 2);
    }

    private static void otherOps(Due due) {
        due.says("A message with op 2: one with op 1 is none");
        deaf(due, "OFFER", Play.inState(1), offer(1, 9, 1).op(1));
        deaf(due, "ACK", Play.inState(2), ack(2, 9, 50).op(1));
        deaf(due, "NAK", Play.inState(2), Play.nak(0, 2).op(1));
        for (int kind : new int[] {0, 1, 3, 4, 7, 8, 255}) {
            for (int state = 0; state <= 7; state++) {
                LeaseNet x = Play.inState(state);
                int xid = x.client(0, 4);
                deaf(due, "type " + kind + " in " + state, x,
                        Msg.downTo(0, xid).yiaddr(9).kind(kind).wanted(9).lease(90).server(1).end());
                deaf(due, "no type in " + state, x, Msg.downTo(0, xid).yiaddr(9).lease(90).server(1).end());
            }
        }
    }

    private static void offerStates(Due due) {
        due.says("OFFER to one that is SELECTING");
        for (int state = 0; state <= 7; state++) {
            LeaseNet x = Play.inState(state);
            int xid = x.client(0, 4);
            if (state != Play.SELECTING) {
                deaf(due, "OFFER in " + state, x, offer(xid, 9, 1));
            }
        }
        LeaseNet x = Play.inState(Play.SELECTING);
        Play.ticks(x, 4);
        Play.clear(x);
        offer(2, 9, 5).bringTo(x, 0);
        due.client("REQUESTING, try 1", x, 0, 2, 0, 0, 0, 3, 1, 1);
        due.packet("REQUEST: wanted, that server", x, 0, 13, Msg.up(0, 3).kind(3).wanted(9).server(5).end());
    }

    private static void offerNumbers(Due due) {
        due.says("OFFER with yiaddr and server not 0");
        deaf(due, "yiaddr 0", Play.inState(1), offer(1, 0, 1));
        deaf(due, "server 0", Play.inState(1), offer(1, 9, 0));
        deaf(due, "both 0", Play.inState(1), offer(1, 0, 0));
        deaf(due, "no server", Play.inState(1), Msg.downTo(0, 1).yiaddr(9).kind(2).lease(50).end());
        for (int n : new int[] {1, 256, 1 << 24, -1, Integer.MIN_VALUE, Integer.MAX_VALUE}) {
            LeaseNet x = Play.inState(1);
            offer(1, n, 7).bringTo(x, 0);
            due.packet("yiaddr " + n, x, 0, 13, Msg.up(0, 2).kind(3).wanted(n).server(7).end());
            LeaseNet y = Play.inState(1);
            offer(1, 9, n).bringTo(y, 0);
            due.packet("server " + n, y, 0, 13, Msg.up(0, 2).kind(3).wanted(9).server(n).end());
        }
    }

    private static void ackStates(Due due) {
        due.says("ACK, in 2, 4, 5, 6");
        for (int state = 0; state <= 7; state++) {
            LeaseNet x = Play.inState(state);
            int xid = x.client(0, 4);
            int sent = state == 4 ? 40 : state == 5 ? 70 : 0;
            if (awaits(state)) {
                ack(xid, 301, 1000).bringTo(x, 0);
                due.client("BOUND, of " + state, x, 0, 3, 301, sent + 1000, 301, xid, 1, 1);
                due.is("packets()", x.packets(), 0);
            } else {
                deaf(due, "ACK in " + state, x, ack(xid, 301, 1000));
            }
        }
    }

    private static void ackAddresses(Due due) {
        due.says("ACK with yiaddr not 0");
        for (int state : new int[] {2, 4, 5, 6}) {
            LeaseNet x = Play.inState(state);
            deaf(due, "yiaddr 0 in " + state, x, ack(x.client(0, 4), 0, 1000));
        }
        for (int address : new int[] {1, 255, 1023, 1024, -1, Integer.MIN_VALUE, Integer.MAX_VALUE}) {
            LeaseNet x = Play.inState(Play.REQUESTING);
            ack(2, address, 50).bringTo(x, 0);
            due.client("yiaddr " + address, x, 0, 3, address, 50, address);
        }
    }

    private static void ackLeases(Due due) {
        due.says("ACK with a lease above 0 (10000 of more)");
        for (int state : new int[] {2, 4, 5, 6}) {
            for (int lease : new int[] {0, -1, -10000, Integer.MIN_VALUE, 0x80000001}) {
                LeaseNet x = Play.inState(state);
                deaf(due, "a lease of " + lease + " in " + state, x, ack(x.client(0, 4), 301, lease));
            }
            LeaseNet none = Play.inState(state);
            deaf(due, "no lease in " + state, none,
                    Msg.downTo(0, none.client(0, 4)).yiaddr(301).kind(Msg.ACK).server(1).end());
            int sent = state == 4 ? 40 : state == 5 ? 70 : 0;
            for (int lease : new int[] {1, 2, 9999, 10000, 10001, 1 << 16, Integer.MAX_VALUE - 69, Integer.MAX_VALUE}) {
                LeaseNet x = Play.inState(state);
                ack(x.client(0, 4), 301, lease).bringTo(x, 0);
                int end = sent + (lease > 10000 ? 10000 : lease);
                due.client("a lease of " + lease + " in " + state, x, 0, 3, 301, end, 301);
            }
        }
    }

    private static void ackInTime(Due due) {
        due.says("ACK with SENT and the lease later than now");
        for (int late = 0; late <= 3; late++) {
            for (int lease = 1; lease <= 5; lease++) {
                LeaseNet x = Play.inState(Play.REQUESTING);
                Play.ticks(x, late);
                if (lease <= late) {
                    deaf(due, "a lease of " + lease + ", " + late + " ticks late", x, ack(2, 301, lease));
                } else {
                    ack(2, 301, lease).bringTo(x, 0);
                    due.client("a lease of " + lease + ", " + late + " ticks late", x, 0, 3, 301, lease, 301);
                }
            }
        }
        LeaseNet y = Play.inState(Play.REQUESTING);
        y.strange(301, true);
        Play.ticks(y, 2);
        deaf(due, "of a strange one too", y, ack(2, 301, 2));
    }

    private static void strangers(Due due) {
        due.says("in 2 and 6, if that is STRANGE: it broadcasts DECLINE, wanted (that), has no address, is WAITING");
        for (int state : new int[] {2, 4, 5, 6}) {
            LeaseNet x = Play.inState(state);
            int xid = x.client(0, 4);
            x.strange(301, true);
            ack(xid, 301, 1000).bringTo(x, 0);
            if (state == Play.REQUESTING || state == Play.REBOOTING) {
                due.client("WAITING, of " + state, x, 0, 7, 0, 0, 0, xid + 1, 1, 1);
                due.packet("DECLINE", x, 0, 13, Msg.up(0, xid + 1).kind(Msg.DECLINE).wanted(301).end());
            } else {
                due.client("BOUND, of " + state, x, 0, 3, 301, state == 4 ? 1040 : 1070, 301, xid, 1, 1);
                due.is("packets()", x.packets(), 0);
            }
        }
        LeaseNet beside = Play.inState(Play.REQUESTING);
        beside.strange(300, true);
        beside.strange(302, true);
        ack(2, 301, 50).bringTo(beside, 0);
        due.is("its neighbours do not count", beside.client(0, 0), 3);
        for (int address : new int[] {1024, 1024 + 301, 301 - 1024, -1, Integer.MIN_VALUE, Integer.MAX_VALUE}) {
            LeaseNet x = Play.inState(Play.REQUESTING);
            x.strange(301, true);
            x.strange(1023, true);
            ack(2, address, 50).bringTo(x, 0);
            due.is(address + " can't be strange", x.client(0, 0), 3);
        }
    }

    private static void nakStates(Due due) {
        due.says("NAK, in 2, 4, 5, 6: it has no address, and begins");
        for (int state = 0; state <= 7; state++) {
            LeaseNet x = Play.inState(state);
            int xid = x.client(0, 4);
            if (awaits(state)) {
                Msg.downTo(0, xid).kind(Msg.NAK).end().bringTo(x, 0);
                due.client("begins, of " + state, x, 0, 1, 0, 0, 0, xid + 1, 1, 1);
                due.packet("DISCOVER", x, 0, 13, Play.discover(0, xid + 1));
            } else {
                deaf(due, "NAK in " + state, x, Play.nak(0, xid));
            }
        }
    }

    private static void ends(Due due) {
        due.says("in 3, 4, 5, 6: its end is not later than now: it has no address, and begins");
        // Leases that end in each state: 1 in 3; 7 in 4, for its rebinding time is its end; 8 in 5.
        int[][] those = {{3, 1}, {4, 7}, {5, 8}};
        for (int[] t : those) {
            LeaseNet x = Play.bound(0, 1, 300, t[1]);
            Play.ticks(x, t[1] - 1);
            due.client("1 tick before its end", x, 0, t[0], 300, t[1], 300);
            Play.clear(x);
            int xid = x.client(0, 4);
            x.tick();
            due.client("at its end, in " + t[0], x, 0, 1, 0, 0, 0, xid + 1, 1, 1);
            due.is("packets()", x.packets(), 1);
            due.packet("DISCOVER alone", x, 0, 13, Play.discover(0, xid + 1));
        }
        LeaseNet y = Play.bound(0, 1, 300, 20);
        y.off(0);
        Play.ticks(y, 16);
        y.join(0, 1);
        Play.clear(y);
        Play.ticks(y, 3);
        due.client("rebooting, 1 tick before its end", y, 0, 6, 300, 20, 0, 3, 1, 1);
        y.tick();
        due.client("at its end its next try is due too", y, 0, 1, 0, 0, 0, 4, 1, 1);
        due.packet("DISCOVER alone", y, 0, 13, Play.discover(0, 4));
        due.is("packets()", y.packets(), 1);
    }

    private static void renewals(Due due) {
        due.says("RENEWAL is SENT and lease / 2, REBINDING time SENT and lease - lease / 8");
        // A lease, when it renews, and when it rebinds (0: never, for its end comes first).
        int[][] those = {{1, 0, 0}, {2, 1, 0}, {3, 1, 0}, {4, 2, 0}, {5, 2, 0}, {7, 3, 0}, {8, 4, 7}, {9, 4, 8},
            {10, 5, 9}, {15, 7, 14}, {16, 8, 14}, {17, 8, 15}, {23, 11, 21}, {24, 12, 21}, {25, 12, 22}, {99, 49, 87},
            {100, 50, 88}, {103, 51, 91}, {104, 52, 91}, {111, 55, 98}};
        for (int[] t : those) {
            int renews = 0;
            int rebinds = 0;
            LeaseNet x = Play.bound(0, 1, 300, t[0]);
            for (int time = 1; time < t[0]; time++) {
                x.tick();
                renews = renews == 0 && x.client(0, 0) == Play.RENEWING ? time : renews;
                rebinds = rebinds == 0 && x.client(0, 0) == Play.REBINDING ? time : rebinds;
                Play.clear(x);
            }
            due.is("a lease of " + t[0] + " renews at", renews, t[1]);
            due.is("a lease of " + t[0] + " rebinds at", rebinds, t[2]);
        }
        LeaseNet y = Play.requesting(0, 1, 300, 1);
        Play.ticks(y, 5);
        Play.clear(y);
        ack(3, 300, 20).bringTo(y, 0);
        due.client("SENT is 4", y, 0, 3, 300, 24, 300, 3, 2, 1);
        Play.ticks(y, 8);
        due.is("at 13", y.client(0, 0), 3);
        y.tick();
        due.is("at 14", y.client(0, 0), 4);
        Play.ticks(y, 7);
        due.is("at 21", y.client(0, 0), 4);
        y.tick();
        due.is("at 22", y.client(0, 0), 5);
    }

    private static void oneStepATick(Due due) {
        due.says("for each client, the first of these that fits");
        // Bound again by its third try at 71: its renewal, 40, and its rebinding time, 70, are both past.
        LeaseNet x = Play.inState(Play.BOUND);
        x.off(0);
        Play.ticks(x, 43);
        x.join(0, 1);
        Play.ticks(x, 27);
        Play.clear(x);
        due.is("at 70", x.client(0, 0), 6);
        x.tick();
        due.client("at 71", x, 0, 3, 300, 80, 300, 5, 3, 1);
        due.is("nothing is sent", x.packets(), 0);
        x.tick();
        due.client("at 72", x, 0, 4, 300, 80, 300, 6, 3, 1);
        due.packet("to the server", x, 0, 16, Msg.up(0, 6).ciaddr(300).kind(3).end());
        x.tick();
        due.client("at 73", x, 0, 5, 300, 80, 300, 7, 3, 1);
        due.packet("by broadcast", x, 1, 13, Msg.up(0, 7).ciaddr(300).kind(3).end());
        due.is("packets()", x.packets(), 2);
    }

    /** The times at which client 0 sends something, up to one. */
    private static String sendings(LeaseNet x, int until) {
        List<Integer> times = new ArrayList<>();
        while (x.count(0) < until) {
            int time = x.tick();
            for (; x.packets() > 0; x.drop(0)) {
                times.add(time);
            }
        }
        return times.toString();
    }

    private static void sendsAt(Due due, String what, LeaseNet x, int until, String want) {
        String got = sendings(x, until);
        due.is(what + " sends at " + got + ", due is " + want, got.equals(want), true);
    }

    private static void halves(Due due) {
        due.says("half of the time (from SENT to the rebinding time, or the end; upward, 2 at least) ago, or more");
        // 40 renews; 70 is the rebinding time: half of 30, 15, 7, 3; then half of 10, 5, and 2, up to the end.
        sendsAt(due, "a lease of 80", Play.bound(0, 1, 300, 80), 80, "[40, 55, 63, 67, 69, 70, 75, 78, 80]");
        // 50 renews, 89 rebinds: half of 39, 19, 9, 4, and 2 at least; then half of 12, 6, 3, and 2 at least.
        sendsAt(due, "a lease of 101", Play.bound(0, 1, 300, 101), 101, "[50, 70, 80, 85, 87, 89, 95, 98, 100, 101]");
        sendsAt(due, "a lease of 9", Play.bound(0, 1, 300, 9), 9, "[4, 6, 8, 9]");
        sendsAt(due, "a lease of 8", Play.bound(0, 1, 300, 8), 8, "[4, 6, 7, 8]");
        sendsAt(due, "a lease of 7", Play.bound(0, 1, 300, 7), 7, "[3, 5, 7]");
        sendsAt(due, "a lease of 5", Play.bound(0, 1, 300, 5), 5, "[2, 4, 5]");
        sendsAt(due, "a lease of 4", Play.bound(0, 1, 300, 4), 4, "[2, 4]");
        sendsAt(due, "a lease of 3", Play.bound(0, 1, 300, 3), 3, "[1, 3]");
        LeaseNet x = Play.inState(Play.REBINDING);
        Play.ticks(x, 5);
        due.packet("that again, as REBINDING does", x, 0, 13, Msg.up(0, x.client(0, 4)).ciaddr(300).kind(3).end());
        LeaseNet y = Play.inState(Play.RENEWING);
        Play.ticks(y, 15);
        due.packet("that again, as RENEWING does", y, 0, 16, Msg.up(0, 4).ciaddr(300).kind(3).end());
    }

    private static void tries(Due due) {
        due.says("1, 2, 6: SENT is 4, 8, 16 ticks ago in its try 1, 2, 3 (or more): the next try, likewise");
        sendsAt(due, "SELECTING", Play.inState(Play.SELECTING), 27, "[4, 12]");
        sendsAt(due, "REQUESTING", Play.inState(Play.REQUESTING), 27, "[4, 12]");
        sendsAt(due, "REBOOTING", Play.inState(Play.REBOOTING), 27, "[4, 12]");
        for (int state : new int[] {1, 2, 6}) {
            LeaseNet x = Play.inState(state);
            int xid = x.client(0, 4);
            int[] times = {3, 4, 11, 12, 27};
            int[] wanted = {1, 2, 2, 3, 3};
            for (int i = 0; i < times.length; i++) {
                Play.ticks(x, times[i] - x.count(0));
                due.is("try at " + times[i], x.client(0, 5), wanted[i]);
                due.is("xid at " + times[i], x.client(0, 4), xid + wanted[i] - 1);
                due.is("state at " + times[i], x.client(0, 0), state);
            }
        }
    }

    private static void behindTry3(Due due) {
        due.says("behind try 3: SELECTING stays in try 3, REQUESTING begins, REBOOTING becomes BOUND");
        LeaseNet selecting = Play.inState(Play.SELECTING);
        sendsAt(due, "SELECTING", selecting, 80, "[4, 12, 28, 44, 60, 76]");
        due.client("SELECTING", selecting, 0, 1, 0, 0, 0, 7, 3, 1);
        LeaseNet requesting = Play.inState(Play.REQUESTING);
        sendsAt(due, "REQUESTING", requesting, 28, "[4, 12, 28]");
        due.client("REQUESTING", requesting, 0, 1, 0, 0, 0, 5, 1, 1);
        sendsAt(due, "REQUESTING, then SELECTING", requesting, 60, "[32, 40, 56]");
        LeaseNet rebooting = Play.inState(Play.REBOOTING);
        sendsAt(due, "REBOOTING", rebooting, 28, "[4, 12]");
        due.client("REBOOTING", rebooting, 0, 3, 300, 80, 300, 5, 3, 1);
    }

    private static void boundAsBefore(Due due) {
        due.says("REBOOTING becomes BOUND (as it was bound before)");
        LeaseNet x = Play.bound(0, 1, 300, 200);
        Play.ticks(x, 50);
        x.off(0);
        x.join(0, 2);
        Play.ticks(x, 28);
        Play.clear(x);
        due.client("its end", x, 0, 3, 300, 200, 300, 5, 3, 2);
        sendsAt(due, "its renewal and its rebinding time", x, 175, "[100, 138, 157, 166, 171, 173, 175]");
        due.client("rebinding", x, 0, 5, 300, 200, 300, 12, 3, 2);
    }

    private static void waiting(Due due) {
        due.says("WAITING: SENT is 10 ticks ago: it begins");
        LeaseNet x = Play.requesting(0, 2, 300, 1);
        Play.ticks(x, 3);
        x.strange(300, true);
        ack(2, 300, 50).bringTo(x, 0);
        Play.clear(x);
        Play.ticks(x, 9);
        due.client("9 ticks ago", x, 0, 7, 0, 0, 0, 3, 1, 2);
        due.is("packets()", x.packets(), 0);
        x.tick();
        due.client("10 ticks ago", x, 0, 1, 0, 0, 0, 4, 1, 2);
        due.packet("DISCOVER", x, 0, 14, Play.discover(0, 4));
        due.is("packets()", x.packets(), 1);
    }

    private static void offInTicks(Due due) {
        due.says("A TICK: an OFF client does nothing");
        for (int state = 1; state <= 7; state++) {
            LeaseNet x = Play.inState(state);
            x.off(0);
            int[] before = parts(x);
            Play.ticks(x, 120);
            due.client("off, of " + state, x, 0, before);
            due.is("packets()", x.packets(), 0);
        }
    }

    private static void release(Due due) {
        due.says("A client sends RELEASE with ciaddr to the server, if it uses an address");
        for (int state : new int[] {3, 4, 5}) {
            LeaseNet x = Play.inState(state);
            int xid = x.client(0, 4);
            x.leave(0);
            due.packet("RELEASE in " + state, x, 0, 16, Msg.up(0, xid + 1).ciaddr(300).kind(Msg.RELEASE).end());
            due.is("packets()", x.packets(), 1);
            x.join(0, 1);
            due.client("it has none then", x, 0, 1, 0, 0, 0, xid + 2, 1, 1);
        }
        for (int state : new int[] {1, 2, 6, 7}) {
            LeaseNet x = Play.inState(state);
            x.leave(0);
            due.is("packets() in " + state, x.packets(), 0);
            x.join(0, 1);
            due.is("it has none then", x.client(0, 0), 1);
        }
    }
}
