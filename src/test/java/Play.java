/** Objects brought to where a test begins, and what tests do with them again and again. */
final class Play {
    static final int OFF = 0, SELECTING = 1, REQUESTING = 2, BOUND = 3, RENEWING = 4, REBINDING = 5,
            REBOOTING = 6, WAITING = 7;
    static final int SERVER = 16;
    /** No such number of anything, however near to the right ones, or far. */
    static final int[] FAR = {Integer.MIN_VALUE, Integer.MIN_VALUE + 1, -256, -3, 1 << 20, Integer.MAX_VALUE};

    private Play() {
    }

    static void ticks(LeaseNet x, int n) {
        for (int i = 0; i < n; i++) {
            x.tick();
        }
    }

    static void clear(LeaseNet x) {
        while (x.packets() > 0) {
            x.drop(x.packets() - 1);
        }
    }

    /** So many packets of one byte, which are broken, to client 0. */
    static void fill(LeaseNet x, int packets) {
        for (int i = 0; i < packets; i++) {
            x.type(i, 1);
            x.inject(0);
        }
    }

    static Msg discover(int client, int xid) {
        return Msg.up(client, xid).kind(Msg.DISCOVER).end();
    }

    static Msg offer(int client, int xid, int address, int lease) {
        return Msg.downTo(client, xid).yiaddr(address).kind(Msg.OFFER).lease(lease).server(1).end();
    }

    static Msg ack(int client, int xid, int address, int lease) {
        return Msg.downTo(client, xid).yiaddr(address).kind(Msg.ACK).lease(lease).server(1).end();
    }

    static Msg nak(int client, int xid) {
        return Msg.downTo(client, xid).kind(Msg.NAK).server(1).end();
    }

    /** A server with a pool on subnet 0. */
    static LeaseNet with(int low, int high, int lease) {
        LeaseNet x = new LeaseNet();
        x.pool(0, low, high, lease);
        return x;
    }

    /** The client gets the lease of the address, if it is free; nothing more is under way. */
    static void lend(LeaseNet x, int client, int xid, int address) {
        Msg.up(client, xid).kind(Msg.DISCOVER).wanted(address).end().bringTo(x, SERVER);
        clear(x);
        Msg.up(client, xid + 1).kind(Msg.REQUEST).wanted(address).server(1).end().bringTo(x, SERVER);
        clear(x);
    }

    /** A client that is REQUESTING the address of the server, with xid 2, SENT 0; nothing is under way. */
    static LeaseNet requesting(int client, int subnet, int address, int server) {
        LeaseNet x = new LeaseNet();
        x.join(client, subnet);
        x.drop(0);
        Msg.downTo(client, 1).yiaddr(address).kind(Msg.OFFER).server(server).end().bringTo(x, client);
        x.drop(0);
        return x;
    }

    static LeaseNet bound(int client, int subnet, int address, int lease) {
        LeaseNet x = requesting(client, subnet, address, 1);
        ack(client, 2, address, lease).bringTo(x, client);
        return x;
    }

    /** Client 0 is in this state, on subnet 1, with the address 300 where it has one; nothing is under way. */
    static LeaseNet inState(int state) {
        LeaseNet x = state == OFF || state == SELECTING ? new LeaseNet()
                : state == REQUESTING || state == WAITING ? requesting(0, 1, 300, 1) : bound(0, 1, 300, 80);
        switch (state) {
            case SELECTING:
                x.join(0, 1);
                break;
            case RENEWING:
                ticks(x, 40);
                break;
            case REBINDING:
                ticks(x, 70);
                break;
            case REBOOTING:
                x.off(0);
                x.join(0, 1);
                break;
            case WAITING:
                x.strange(300, true);
                ack(0, 2, 300, 80).bringTo(x, 0);
                break;
            default:
                break;
        }
        clear(x);
        return x;
    }
}
