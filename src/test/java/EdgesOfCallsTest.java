import java.util.NoSuchElementException;

/** The edges of what calls may be given, sentence by sentence, and which exception comes first. */
final class EdgesOfCallsTest {
    private static final Class<NoSuchElementException> NO_SUCH = NoSuchElementException.class;
    private static final Class<IllegalArgumentException> ARGUMENT = IllegalArgumentException.class;
    private static final Class<IllegalStateException> STATE = IllegalStateException.class;
    private static final Class<IndexOutOfBoundsException> INDEX = IndexOutOfBoundsException.class;

    public static void main(String[] args) {
        Due due = new Due("EdgesOfCallsTest");
        clients(due);
        subnets(due);
        hostsOfPools(due);
        leasesOfPools(due);
        joinOfOneThatIsNotOff(due);
        offOfOneThatIsOff(due);
        leaveOfOneThatIsOff(due);
        strangeAddresses(due);
        packetsThatAreNone(due);
        bytesOfPackets(due);
        runs(due);
        typedNumbers(due);
        typedTooMuch(due);
        toldParts(due);
        toldOfBrokenOnes(due);
        injectPlaces(due);
        injectNothing(due);
        clientParts(due);
        recordAddresses(due);
        recordParts(due);
        countParts(due);
        whichComesFirst(due);
        due.end();
    }

    private static int[] and(int[] some, int... more) {
        int[] all = new int[some.length + more.length];
        System.arraycopy(some, 0, all, 0, some.length);
        System.arraycopy(more, 0, all, some.length, more.length);
        return all;
    }

    private static void clients(Due due) {
        due.says("CLIENTS are 0 .. 11");
        LeaseNet x = new LeaseNet();
        for (int c : new int[] {0, 11}) {
            x.join(c, 0);
            due.is("client(" + c + ", 0) that joined", x.client(c, 0), 1);
            x.off(c);
            due.is("client(" + c + ", 0) that is off", x.client(c, 0), 0);
            x.join(c, 0);
            x.leave(c);
            due.is("client(" + c + ", 0) that left", x.client(c, 0), 0);
        }
        for (int c : and(Play.FAR, -1, 12)) {
            due.fails("join(" + c + ", 0)", NO_SUCH, () -> x.join(c, 0));
            due.fails("off(" + c + ")", NO_SUCH, () -> x.off(c));
            due.fails("leave(" + c + ")", NO_SUCH, () -> x.leave(c));
            due.fails("client(" + c + ", 0)", NO_SUCH, () -> x.client(c, 0));
        }
    }

    private static void subnets(Due due) {
        due.says("SUBNETS 0 .. 3");
        LeaseNet x = new LeaseNet();
        for (int s = 0; s <= 3; s++) {
            x.pool(s, 2, 2, 8);
            due.is("pools", x.count(4), s + 1);
            x.join(s, s);
            due.is("client(" + s + ", 6)", x.client(s, 6), s);
        }
        for (int s : and(Play.FAR, -1, 4)) {
            due.fails("pool(" + s + ", 2, 2, 8)", NO_SUCH, () -> x.pool(s, 2, 2, 8));
            due.fails("join(7, " + s + ")", NO_SUCH, () -> x.join(7, s));
        }
        due.is("pools still", x.count(4), 4);
        due.client("off still", x, 7, 0, 0, 0, 0, 0, 0, 0);
    }

    private static void hostsOfPools(Due due) {
        LeaseNet x = new LeaseNet();
        due.says("2 <= low");
        x.pool(3, 2, 250, 8);
        due.is("all hosts", x.count(4), 249);
        for (int low : and(Play.FAR, -1, 0, 1)) {
            due.fails("pool(3, " + low + ", 250, 8)", ARGUMENT, () -> x.pool(3, low, 250, 8));
        }
        due.is("all hosts still", x.count(4), 249);
        due.says("low <= high");
        for (int host : new int[] {2, 3, 100, 249, 250}) {
            x.pool(3, host, host, 8);
            due.is("one host", x.count(4), 1);
            due.fails("one less than none", ARGUMENT, () -> x.pool(3, host, host - 1, 8));
        }
        due.fails("turned round", ARGUMENT, () -> x.pool(3, 250, 2, 8));
        due.says("high <= 250");
        for (int high : and(Play.FAR, -1, 251, 252, 254, 255, 256)) {
            due.fails("pool(3, 2, " + high + ", 8)", ARGUMENT, () -> x.pool(3, 2, high, 8));
            due.fails("pool(3, " + high + ", " + high + ", 8)", ARGUMENT, () -> x.pool(3, high, high, 8));
        }
        due.is("one host still", x.count(4), 1);
        Msg.up(0, 1).giaddr(769).kind(Msg.DISCOVER).end().bringTo(x, Play.SERVER);
        due.packet("its highest", x, 0, 15, Play.offer(0, 1, 768 + 250, 8).giaddr(769));
    }

    private static void leasesOfPools(Due due) {
        due.says("lease time (8 .. 10000)");
        for (int lease : new int[] {8, 9, 9999, 10000}) {
            LeaseNet x = Play.with(2, 2, lease);
            x.join(0, 0);
            x.run(200);
            due.client("a lease of " + lease, x, 0, 3, 2, lease, 2);
            due.record("a lease of " + lease, x, 2, 2, 0, lease);
        }
        LeaseNet y = Play.with(2, 2, 8);
        for (int lease : and(Play.FAR, -8, -1, 0, 1, 7, 10001)) {
            due.fails("pool(0, 2, 3, " + lease + ")", ARGUMENT, () -> y.pool(0, 2, 3, lease));
        }
        due.is("the pool of before", y.count(4), 1);
        Play.discover(0, 1).bringTo(y, Play.SERVER);
        due.packet("the lease of before", y, 0, 0, Play.offer(0, 1, 2, 8));
    }

    private static void joinOfOneThatIsNotOff(Due due) {
        due.says("join: IllegalStateException when it is not OFF");
        for (int state = 1; state <= 7; state++) {
            LeaseNet x = Play.inState(state);
            due.is("state", x.client(0, 0), state);
            due.fails("join in state " + state, STATE, () -> x.join(0, 2));
            due.is("state still", x.client(0, 0), state);
            due.is("subnet still", x.client(0, 6), 1);
            due.is("nothing is sent", x.packets(), 0);
            x.off(0);
            x.join(0, 2);
            due.is("an OFF one joins", x.client(0, 6), 2);
        }
    }

    private static void offOfOneThatIsOff(Due due) {
        due.says("off: IllegalStateException when it is OFF");
        due.fails("at first", STATE, () -> new LeaseNet().off(0));
        for (int state = 1; state <= 7; state++) {
            LeaseNet x = Play.inState(state);
            int address = x.client(0, 1);
            int end = x.client(0, 2);
            x.off(0);
            due.fails("off again, of state " + state, STATE, () -> x.off(0));
            due.client("it keeps its address and its end", x, 0, 0, address, end, 0);
            due.is("nothing is sent", x.packets(), 0);
        }
    }

    private static void leaveOfOneThatIsOff(Due due) {
        due.says("leave: IllegalStateException when it is OFF");
        due.fails("at first", STATE, () -> new LeaseNet().leave(0));
        for (int state = 1; state <= 7; state++) {
            LeaseNet x = Play.inState(state);
            int xid = x.client(0, 4);
            x.leave(0);
            int used = state >= Play.BOUND && state <= Play.REBINDING ? 1 : 0;
            due.fails("leave again, of state " + state, STATE, () -> x.leave(0));
            due.is("RELEASE, if it used one: state " + state, x.packets(), used);
            due.client("it has none then", x, 0, 0, 0, 0, 0, xid + used);
        }
        LeaseNet y = Play.inState(Play.BOUND);
        y.off(0);
        due.fails("leave of one that is OFF with an address", STATE, () -> y.leave(0));
        due.client("it keeps that", y, 0, 0, 300, 80, 0, 2);
        due.is("nothing is sent", y.packets(), 0);
    }

    private static void strangeAddresses(Due due) {
        due.says("strange: IllegalArgumentException when it is not 1 .. 1023");
        LeaseNet x = new LeaseNet();
        for (int a : and(Play.FAR, -1, 0, 1024, 1025)) {
            due.fails("strange(" + a + ", true)", ARGUMENT, () -> x.strange(a, true));
            due.fails("strange(" + a + ", false)", ARGUMENT, () -> x.strange(a, false));
        }
        for (int a : new int[] {1, 2, 254, 255, 256, 257, 512, 1022, 1023}) {
            LeaseNet y = Play.requesting(0, 0, a, 1);
            y.strange(a, true);
            Play.ack(0, 2, a, 50).bringTo(y, 0);
            due.is("client that is given the strange " + a, y.client(0, 0), Play.WAITING);
            LeaseNet z = Play.requesting(0, 0, a, 1);
            z.strange(a, true);
            z.strange(a, false);
            Play.ack(0, 2, a, 50).bringTo(z, 0);
            due.is("client that is given " + a + ", which was strange", z.client(0, 0), Play.BOUND);
        }
    }

    private static void packetsThatAreNone(Due due) {
        due.says("NoSuchElementException: there is no such packet");
        LeaseNet x = new LeaseNet();
        isNoPacket(due, x, and(Play.FAR, -1, 0, 1, 59, 60));
        x.join(0, 0);
        isNoPacket(due, x, and(Play.FAR, -1, 1, 2, 59, 60));
        x.join(1, 0);
        isNoPacket(due, x, and(Play.FAR, -1, 2, 59, 60));
        due.is("two are under way still", x.packets(), 2);
        x.drop(1);
        isNoPacket(due, x, new int[] {1});
        due.is("carry(0)", x.carry(0), Play.SERVER);
        isNoPacket(due, x, new int[] {0});
        LeaseNet full = new LeaseNet();
        Play.fill(full, 60);
        due.is("byte of the 60th", full.packet(59, 0), 59);
        isNoPacket(due, full, new int[] {60, 61});
    }

    private static void isNoPacket(Due due, LeaseNet x, int[] those) {
        for (int k : those) {
            due.fails("packet(" + k + ", 0)", NO_SUCH, () -> x.packet(k, 0));
            due.fails("carry(" + k + ")", NO_SUCH, () -> x.carry(k));
            due.fails("twice(" + k + ")", NO_SUCH, () -> x.twice(k));
            due.fails("drop(" + k + ")", NO_SUCH, () -> x.drop(k));
        }
    }

    private static void bytesOfPackets(Due due) {
        due.says("byte i of its message; for i = -1 its place, for -2 how many bytes it has");
        for (int length : new int[] {1, 2, 19, 59, 60}) {
            LeaseNet x = new LeaseNet();
            // A longer one goes before, so that what it leaves behind would be seen.
            Msg.typeOn(x, new int[60]);
            x.inject(3);
            x.drop(0);
            for (int i = 0; i < length; i++) {
                x.type(200 + i % 56, 1);
            }
            x.inject(15);
            due.is("packet(0, -2)", x.packet(0, -2), length);
            due.is("packet(0, -1)", x.packet(0, -1), 15);
            due.is("packet(0, 0)", x.packet(0, 0), 200);
            due.is("its last byte", x.packet(0, length - 1), 200 + (length - 1) % 56);
            for (int i : and(Play.FAR, -3, length, length + 1, 60, 61)) {
                due.fails("packet(0, " + i + ") of " + length, INDEX, () -> x.packet(0, i));
            }
        }
    }

    private static void runs(Due due) {
        due.says("run: IllegalArgumentException when n is not 0 .. 200");
        LeaseNet x = new LeaseNet();
        x.join(0, 1);
        for (int n : and(Play.FAR, -1, 201)) {
            due.fails("run(" + n + ")", ARGUMENT, () -> x.run(n));
        }
        due.is("nothing was carried", x.packet(0, -1), 13);
        due.is("run(0)", x.run(0), 0);
        due.is("nothing was carried", x.packet(0, -1), 13);
        due.is("run(200)", x.run(200), 2);
        due.is("run(200) of none", x.run(200), 0);
        due.is("run(0) of none", x.run(0), 0);
    }

    private static void typedNumbers(Due due) {
        due.says("False, changing nothing, when n is not 1 .. 8");
        LeaseNet x = new LeaseNet();
        due.is("type(7, 1)", x.type(7, 1), true);
        for (int n : and(Play.FAR, -8, -1, 0, 9, 64)) {
            due.is("type(0, " + n + ")", x.type(0, n), false);
        }
        x.inject(0);
        due.packet("one byte alone", x, 0, 0, new int[] {7});
        for (int n = 1; n <= 8; n++) {
            due.is("type(.., " + n + ")", x.type(0x8877665544332281L, n), true);
            x.inject(n);
            int[] all = {0x81, 0x22, 0x33, 0x44, 0x55, 0x66, 0x77, 0x88};
            due.packet("the lowest first", x, n, n, java.util.Arrays.copyOf(all, n));
        }
    }

    private static void typedTooMuch(Due due) {
        due.says("or there would be more than 60");
        for (int n = 1; n <= 8; n++) {
            LeaseNet x = new LeaseNet();
            Msg.typeOn(x, new int[60 - n]);
            if (n < 8) {
                due.is("one more than 60", x.type(-1, n + 1), false);
            }
            due.is("60 with the last " + n, x.type(-1, n), true);
            for (int more = 1; more <= 8; more++) {
                due.is("60 and " + more, x.type(0, more), false);
            }
            x.inject(0);
            due.is("60 bytes", x.packet(0, -2), 60);
            due.is("before the last ones", x.packet(0, 59 - n), 0);
            due.is("the first of the last ones", x.packet(0, 60 - n), 255);
            due.is("the last", x.packet(0, 59), 255);
            due.is("a tape that was taken is empty", x.type(0, 8), true);
        }
    }

    private static void toldParts(Due due) {
        due.says("told: IndexOutOfBoundsException for another what");
        LeaseNet x = new LeaseNet();
        Msg.up(9, 8).hops(1).ciaddr(2).yiaddr(3).giaddr(4).kind(5).wanted(6).lease(7).server(10).end().typeOn(x);
        long[] want = {1, 1, 8, 2, 3, 4, 9, 5, 6, 7, 10};
        for (int round = 0; round < 2; round++) {
            for (int what = 0; what <= 10; what++) {
                due.is("told(" + what + ")", x.told(what), want[what]);
            }
            for (int what : and(Play.FAR, -1, 11, 12)) {
                due.fails("told(" + what + ")", INDEX, () -> x.told(what));
            }
        }
        due.says("TYPE (7; -1 without), WANTED, LEASE, SERVER (8 .. 10; 0 without)");
        x.inject(0);
        Msg.up(9, 8).end().typeOn(x);
        for (int what = 7; what <= 10; what++) {
            due.is("told(" + what + ") without", x.told(what), what == 7 ? -1 : 0);
        }
        x.inject(0);
        Msg.up(9, 8).kind(0).wanted(0).lease(0).server(0).end().typeOn(x);
        for (int what = 7; what <= 10; what++) {
            due.is("told(" + what + ") of 0", x.told(what), 0);
        }
    }

    private static void toldOfBrokenOnes(Due due) {
        due.says("told: IllegalArgumentException when it is broken");
        for (int what = 0; what <= 10; what++) {
            int w = what;
            LeaseNet x = new LeaseNet();
            due.fails("told(" + w + ") of an empty tape", ARGUMENT, () -> x.told(w));
            Msg.up(9, 8).kind(5).typeOn(x);
            due.fails("told(" + w + ") without end", ARGUMENT, () -> x.told(w));
            x.type(255, 1);
            due.is("told(" + w + ") with it", x.told(w), new int[] {1, 0, 8, 0, 0, 0, 9, 5, 0, 0, 0}[w]);
        }
    }

    private static void injectPlaces(Due due) {
        due.says("inject: IllegalArgumentException for a place that is none");
        LeaseNet x = new LeaseNet();
        x.type(0x0102, 2);
        for (int place : and(Play.FAR, -2, -1, 12, 17, 18)) {
            due.fails("inject(" + place + ")", ARGUMENT, () -> x.inject(place));
        }
        due.is("nothing is under way", x.packets(), 0);
        int sent = 0;
        for (int place : new int[] {0, 1, 10, 11, 13, 14, 15, 16}) {
            x.inject(place);
            due.packet("inject(" + place + ")", x, sent, place, new int[] {2, 1});
            x.type(0x0102, 2);
            sent++;
        }
    }

    private static void injectNothing(Due due) {
        due.says("inject: or when the tape is empty");
        LeaseNet x = new LeaseNet();
        due.fails("at first", ARGUMENT, () -> x.inject(16));
        x.type(9, 1);
        x.inject(16);
        due.fails("when it was taken", ARGUMENT, () -> x.inject(16));
        x.type(9, 0);
        due.fails("when nothing was typed", ARGUMENT, () -> x.inject(16));
        due.is("one is under way", x.packets(), 1);
        due.is("none is lost", x.count(1), 0);
    }

    private static void clientParts(Due due) {
        due.says("client: IndexOutOfBoundsException for another what");
        LeaseNet x = Play.inState(Play.RENEWING);
        due.client("all its parts", x, 0, 4, 300, 80, 300, 3, 1, 1);
        for (int what : and(Play.FAR, -1, 7, 8)) {
            due.fails("client(0, " + what + ")", INDEX, () -> x.client(0, what));
        }
        due.client("one of which nothing is known", x, 11, 0, 0, 0, 0, 0, 0, 0);
    }

    private static void recordAddresses(Due due) {
        due.says("record: IndexOutOfBoundsException when it is not 1 .. 1023");
        LeaseNet x = new LeaseNet();
        for (int a : new int[] {1, 2, 255, 256, 1022, 1023}) {
            due.record("without a record", x, a, 0, -1, 0);
        }
        for (int a : and(Play.FAR, -1, 0, 1024, 1025)) {
            for (int what = 0; what <= 2; what++) {
                int w = what;
                due.fails("record(" + a + ", " + w + ")", INDEX, () -> x.record(a, w));
            }
        }
    }

    private static void recordParts(Due due) {
        due.says("record: IndexOutOfBoundsException for another what");
        LeaseNet x = Play.with(2, 3, 20);
        Play.lend(x, 4, 1, 2);
        due.record("with a record", x, 2, 2, 4, 20);
        for (int what : and(Play.FAR, -1, 3, 4)) {
            due.fails("record(2, " + what + ")", INDEX, () -> x.record(2, what));
            due.fails("record(3, " + what + ")", INDEX, () -> x.record(3, what));
            due.fails("record(0, " + what + ")", INDEX, () -> x.record(0, what));
        }
    }

    private static void countParts(Due due) {
        due.says("count: IndexOutOfBoundsException for another what");
        LeaseNet x = Play.with(2, 3, 20);
        int[] want = {0, 0, 0, 1, 2};
        for (int what = 0; what <= 4; what++) {
            due.is("count(" + what + ")", x.count(what), want[what]);
        }
        for (int what : and(Play.FAR, -1, 5, 6)) {
            due.fails("count(" + what + ")", INDEX, () -> x.count(what));
        }
    }

    private static void whichComesFirst(Due due) {
        due.says("where several exceptions that a call names fit, it is the one that it names first");
        LeaseNet x = new LeaseNet();
        x.join(0, 1);
        due.fails("pool: no subnet, and wrong hosts", NO_SUCH, () -> x.pool(4, 1, 251, 8));
        due.fails("pool: no subnet, and a wrong lease", NO_SUCH, () -> x.pool(-1, 2, 3, 7));
        due.fails("join: no subnet, and not OFF", NO_SUCH, () -> x.join(0, 4));
        due.fails("join: no client, and no subnet", NO_SUCH, () -> x.join(12, 4));
        due.fails("packet: no packet, and no byte", NO_SUCH, () -> x.packet(1, -3));
        due.fails("packet: no packet at -1, and no byte", NO_SUCH, () -> x.packet(-1, 60));
        due.fails("told: no part, and a broken tape", INDEX, () -> x.told(11));
        due.fails("told: no part at -1, and a broken tape", INDEX, () -> x.told(-1));
        due.fails("client: no client, and no part", NO_SUCH, () -> x.client(12, 7));
        due.fails("client: no client at -1, and no part", NO_SUCH, () -> x.client(-1, -1));
    }
}
