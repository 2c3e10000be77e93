import java.util.Arrays;
import java.util.NoSuchElementException;

/** A server that lends out addresses, clients that ask for them, and relays, over a net of bytes. */
public final class LeaseNet {
    private static final int CLIENTS = 12;
    private static final int SUBNETS = 4;
    private static final int ADDRESSES = 1024;
    private static final int NO_ADDRESS = 0;
    private static final int SERVER_ADDRESS = 1;
    private static final int SUBNET_BITS = 8;

    private static final int ROW_LIMIT = 60;
    private static final int BYTES_LIMIT = 60;
    private static final int RUN_LIMIT = 200;

    /** The relay of subnet s (1 .. 3) is at the place RELAYS + s; RELAYS itself is no place. */
    private static final int RELAYS = 12;
    private static final int SERVER_PLACE = 16;
    private static final int NOWHERE = -1;

    private static final int TO_SERVER = 1;
    private static final int TO_CLIENT = 2;
    private static final int HOPS_LIMIT = 4;

    private static final int HOPS_AT = 1;
    private static final int XID_AT = 2;
    private static final int CIADDR_AT = 6;
    private static final int YIADDR_AT = 10;
    private static final int GIADDR_AT = 14;
    private static final int CHADDR_AT = 18;
    private static final int OPTIONS_AT = 19;

    private static final int PAD = 0;
    private static final int WANTED_CODE = 50;
    private static final int LEASE_CODE = 51;
    private static final int TYPE_CODE = 53;
    private static final int SERVER_CODE = 54;
    private static final int END_CODE = 255;

    private static final int NO_TYPE = -1;
    private static final int DISCOVER = 1;
    private static final int OFFER = 2;
    private static final int REQUEST = 3;
    private static final int DECLINE = 4;
    private static final int ACK = 5;
    private static final int NAK = 6;
    private static final int RELEASE = 7;

    private static final int NO_RECORD = 0;
    private static final int OFFERED = 1;
    private static final int LEASED = 2;
    private static final int DECLINED = 3;
    private static final int NO_CLIENT = -1;
    private static final int OFFER_TICKS = 8;
    private static final int DECLINE_TICKS = 100;

    private static final int OFF = 0;
    private static final int SELECTING = 1;
    private static final int REQUESTING = 2;
    private static final int BOUND = 3;
    private static final int RENEWING = 4;
    private static final int REBINDING = 5;
    private static final int REBOOTING = 6;
    private static final int WAITING = 7;
    private static final int LAST_TRY = 3;
    private static final int WAIT_TICKS = 10;

    private static final int LOWEST_HOST = 2;
    private static final int HIGHEST_HOST = 250;
    private static final int SHORTEST_LEASE = 8;
    private static final int LONGEST_LEASE = 10000;

    private final Row row = new Row();
    private final Server server = new Server();
    private final Client[] clients = new Client[CLIENTS];
    private final boolean[] strangers = new boolean[ADDRESSES];
    private final Bytes tape = new Bytes();
    /** What has come to its place: a copy, for the row may change while it is looked at. */
    private final Bytes arrived = new Bytes();
    private final Message heard = new Message();
    private final Message draft = new Message();
    private int now = 0;

    public LeaseNet() {
        for (int c = 0; c < CLIENTS; c++) {
            clients[c] = new Client(c);
        }
    }

    public void pool(int subnet, int low, int high, int lease)
            throws NoSuchElementException, IllegalArgumentException {
        if (!isSubnet(subnet)) {
            throw new NoSuchElementException();
        }
        if (low < LOWEST_HOST || high < low || high > HIGHEST_HOST
                || lease < SHORTEST_LEASE || lease > LONGEST_LEASE) {
            throw new IllegalArgumentException();
        }
        server.pools[subnet].set((subnet << SUBNET_BITS) + low, (subnet << SUBNET_BITS) + high, lease);
    }

    public void join(int client, int subnet) throws NoSuchElementException, IllegalStateException {
        if (!isClient(client) || !isSubnet(subnet)) {
            throw new NoSuchElementException();
        }
        if (clients[client].state != OFF) {
            throw new IllegalStateException();
        }
        row.post(clients[client].again(subnet, now, draft), draft);
    }

    public void off(int client) throws NoSuchElementException, IllegalStateException {
        if (!isClient(client)) {
            throw new NoSuchElementException();
        }
        if (clients[client].state == OFF) {
            throw new IllegalStateException();
        }
        clients[client].state = OFF;
    }

    public void leave(int client) throws NoSuchElementException, IllegalStateException {
        if (!isClient(client)) {
            throw new NoSuchElementException();
        }
        if (clients[client].state == OFF) {
            throw new IllegalStateException();
        }
        row.post(clients[client].goAway(now, draft), draft);
    }

    public void strange(int address, boolean is) throws IllegalArgumentException {
        if (!isAddress(address)) {
            throw new IllegalArgumentException();
        }
        strangers[address] = is;
    }

    public void down(boolean is) {
        server.up = !is;
    }

    public int tick() {
        now++;
        for (int c = 0; c < CLIENTS; c++) {
            row.post(clients[c].passTime(now, draft), draft);
        }
        return now;
    }

    public int packets() {
        return row.size;
    }

    public int packet(int k, int i) throws NoSuchElementException, IndexOutOfBoundsException {
        if (!row.has(k)) {
            throw new NoSuchElementException();
        }
        Packet asked = row.line[k];
        if (i < -2 || i >= asked.bytes.length) {
            throw new IndexOutOfBoundsException();
        }
        if (i == -2) {
            return asked.bytes.length;
        }
        return i == -1 ? asked.place : asked.bytes.at[i];
    }

    public int carry(int k) throws NoSuchElementException {
        if (!row.has(k)) {
            throw new NoSuchElementException();
        }
        return bring(k, true);
    }

    public void twice(int k) throws NoSuchElementException {
        if (!row.has(k)) {
            throw new NoSuchElementException();
        }
        bring(k, false);
    }

    public void drop(int k) throws NoSuchElementException {
        if (!row.has(k)) {
            throw new NoSuchElementException();
        }
        row.remove(k);
    }

    public int run(int n) throws IllegalArgumentException {
        if (n < 0 || n > RUN_LIMIT) {
            throw new IllegalArgumentException();
        }
        int carried = 0;
        while (carried < n && row.size > 0) {
            bring(0, true);
            carried++;
        }
        return carried;
    }

    public boolean type(long w, int n) {
        if (n < 1 || n > 8 || tape.length + n > BYTES_LIMIT) {
            return false;
        }
        for (int i = 0; i < n; i++) {
            tape.add((int) (w >>> (8 * i)));
        }
        return true;
    }

    public int told(int what) throws IndexOutOfBoundsException, IllegalArgumentException {
        if (what < 0 || what > 10) {
            throw new IndexOutOfBoundsException();
        }
        if (!heard.read(tape)) {
            throw new IllegalArgumentException();
        }
        return heard.part(what);
    }

    public void inject(int place) throws IllegalArgumentException {
        if (!isPlace(place) || tape.length == 0) {
            throw new IllegalArgumentException();
        }
        row.postBytes(place, tape);
        tape.length = 0;
    }

    public int client(int client, int what) throws NoSuchElementException, IndexOutOfBoundsException {
        if (!isClient(client)) {
            throw new NoSuchElementException();
        }
        Client asked = clients[client];
        switch (what) {
            case 0: return asked.state;
            case 1: return asked.address;
            case 2: return asked.end;
            case 3: return asked.uses() ? asked.address : NO_ADDRESS;
            case 4: return asked.lastXid;
            case 5: return asked.attempt;
            case 6: return asked.subnet;
            default: throw new IndexOutOfBoundsException();
        }
    }

    public int record(int address, int what) throws IndexOutOfBoundsException {
        if (!isAddress(address)) {
            throw new IndexOutOfBoundsException();
        }
        switch (what) {
            case 0: return server.states[address];
            case 1: return server.owners[address];
            case 2: return server.untils[address];
            default: throw new IndexOutOfBoundsException();
        }
    }

    public int count(int what) throws IndexOutOfBoundsException {
        switch (what) {
            case 0: return now;
            case 1: return row.lost;
            case 2: return server.recordsKept();
            case 3: return server.up ? 1 : 0;
            case 4: return server.freeInPools(now);
            default: throw new IndexOutOfBoundsException();
        }
    }

    private static boolean isClient(int number) {
        return number >= 0 && number < CLIENTS;
    }

    private static boolean isSubnet(int number) {
        return number >= 0 && number < SUBNETS;
    }

    private static boolean isAddress(int number) {
        return number > NO_ADDRESS && number < ADDRESSES;
    }

    private static boolean isPlace(int number) {
        return number >= 0 && number <= SERVER_PLACE && number != RELAYS;
    }

    private static int relayOf(int subnet) {
        return RELAYS + subnet;
    }

    private int bring(int k, boolean leavesRow) {
        int place = row.line[k].place;
        arrived.copy(row.line[k].bytes);
        if (leavesRow) {
            row.remove(k);
        }
        if (!heard.read(arrived)) {
            return place;
        }
        if (place == SERVER_PLACE) {
            row.post(server.hear(heard, now, draft), draft);
        } else if (isClient(place)) {
            boolean taken = isAddress(heard.yiaddr) && strangers[heard.yiaddr];
            row.post(clients[place].hear(heard, taken, now, draft), draft);
        } else {
            passOn(place - RELAYS);
        }
        return place;
    }

    /** A relay passes on the bytes that came, not a message made anew: what stands behind the end stays. */
    private void passOn(int subnet) {
        if (heard.op == TO_CLIENT) {
            if (isClient(heard.chaddr)) {
                row.postBytes(heard.chaddr, arrived);
            }
            return;
        }
        if (heard.hops >= HOPS_LIMIT) {
            return;
        }
        arrived.at[HOPS_AT] = heard.hops + 1;
        if (heard.giaddr == NO_ADDRESS) {
            arrived.setNumber(GIADDR_AT, (subnet << SUBNET_BITS) + 1);
        }
        row.postBytes(SERVER_PLACE, arrived);
    }

    /** Bytes (0 .. 255 each) in a room that is made once. */
    private static final class Bytes {
        final int[] at = new int[BYTES_LIMIT];
        int length = 0;

        void add(int value) {
            if (length < BYTES_LIMIT) {
                at[length] = value & 255;
                length++;
            }
        }

        void addNumber(int value) {
            for (int shift = 24; shift >= 0; shift -= 8) {
                add(value >>> shift);
            }
        }

        int number(int from) {
            int value = 0;
            for (int i = from; i < from + 4 && i < BYTES_LIMIT; i++) {
                value = (value << 8) | at[i];
            }
            return value;
        }

        void setNumber(int from, int value) {
            for (int i = 0; i < 4 && from + i < BYTES_LIMIT; i++) {
                at[from + i] = (value >>> (24 - 8 * i)) & 255;
            }
        }

        void copy(Bytes other) {
            System.arraycopy(other.at, 0, at, 0, other.length);
            length = other.length;
        }
    }

    /** A message, taken apart. In one that is made, an option that is 0 is not named. */
    private static final class Message {
        int op;
        int hops;
        int xid;
        int ciaddr;
        int yiaddr;
        int giaddr;
        int chaddr;
        int kind;
        int wanted;
        int lease;
        int server;

        void start(int newOp, int newXid, int newChaddr) {
            op = newOp;
            hops = 0;
            xid = newXid;
            ciaddr = 0;
            yiaddr = 0;
            giaddr = 0;
            chaddr = newChaddr;
            kind = NO_TYPE;
            wanted = 0;
            lease = 0;
            server = 0;
        }

        /** False when the bytes are broken. */
        boolean read(Bytes from) {
            if (from.length < OPTIONS_AT) {
                return false;
            }
            start(from.at[0], from.number(XID_AT), from.at[CHADDR_AT]);
            hops = from.at[HOPS_AT];
            ciaddr = from.number(CIADDR_AT);
            yiaddr = from.number(YIADDR_AT);
            giaddr = from.number(GIADDR_AT);
            return (op == TO_SERVER || op == TO_CLIENT) && readOptions(from);
        }

        private boolean readOptions(Bytes from) {
            int i = OPTIONS_AT;
            while (i < from.length) {
                int code = from.at[i];
                if (code == END_CODE) {
                    return true;
                }
                if (code == PAD) {
                    i++;
                    continue;
                }
                if (i + 1 >= from.length) {
                    return false;
                }
                int size = from.at[i + 1];
                if (i + 2 + size > from.length || !readOption(from, i + 2, code, size)) {
                    return false;
                }
                i += 2 + size;
            }
            return false;
        }

        private boolean readOption(Bytes from, int start, int code, int size) {
            switch (code) {
                case TYPE_CODE:
                    kind = size == 1 ? from.at[start] : NO_TYPE;
                    return size == 1;
                case WANTED_CODE:
                    wanted = from.number(start);
                    return size == 4;
                case LEASE_CODE:
                    lease = from.number(start);
                    return size == 4;
                case SERVER_CODE:
                    server = from.number(start);
                    return size == 4;
                default:
                    return true;
            }
        }

        void write(Bytes to) {
            to.length = 0;
            to.add(op);
            to.add(hops);
            to.addNumber(xid);
            to.addNumber(ciaddr);
            to.addNumber(yiaddr);
            to.addNumber(giaddr);
            to.add(chaddr);
            to.add(TYPE_CODE);
            to.add(1);
            to.add(kind);
            writeOption(to, WANTED_CODE, wanted);
            writeOption(to, LEASE_CODE, lease);
            writeOption(to, SERVER_CODE, server);
            to.add(END_CODE);
        }

        private void writeOption(Bytes to, int code, int value) {
            if (value != 0) {
                to.add(code);
                to.add(4);
                to.addNumber(value);
            }
        }

        int part(int what) {
            switch (what) {
                case 0: return op;
                case 1: return hops;
                case 2: return xid;
                case 3: return ciaddr;
                case 4: return yiaddr;
                case 5: return giaddr;
                case 6: return chaddr;
                case 7: return kind;
                case 8: return wanted;
                case 9: return lease;
                default: return server;
            }
        }
    }

    private static final class Packet {
        final Bytes bytes = new Bytes();
        int place = NOWHERE;
    }

    /** The packets under way. Those behind size are kept, to be used again. */
    private static final class Row {
        final Packet[] line = new Packet[ROW_LIMIT];
        int size = 0;
        int lost = 0;

        Row() {
            for (int k = 0; k < ROW_LIMIT; k++) {
                line[k] = new Packet();
            }
        }

        boolean has(int k) {
            return k >= 0 && k < size;
        }

        /** With the place NOWHERE nothing is sent. */
        void post(int place, Message message) {
            if (place != NOWHERE && grow(place)) {
                message.write(line[size - 1].bytes);
            }
        }

        void postBytes(int place, Bytes message) {
            if (grow(place)) {
                line[size - 1].bytes.copy(message);
            }
        }

        private boolean grow(int place) {
            if (size >= ROW_LIMIT) {
                lost++;
                return false;
            }
            line[size].place = place;
            size++;
            return true;
        }

        void remove(int k) {
            Packet gone = line[k];
            for (int i = k + 1; i < size; i++) {
                line[i - 1] = line[i];
            }
            size--;
            line[size] = gone;
        }
    }

    private static final class Pool {
        int first = NO_ADDRESS;
        int last = NO_ADDRESS;
        int lease = 0;

        void set(int newFirst, int newLast, int newLease) {
            first = newFirst;
            last = newLast;
            lease = newLease;
        }

        boolean exists() {
            return first != NO_ADDRESS;
        }

        boolean holds(int address) {
            return exists() && address >= first && address <= last;
        }
    }

    private static final class Server {
        boolean up = true;
        final Pool[] pools = new Pool[SUBNETS];
        final int[] states = new int[ADDRESSES];
        final int[] owners = new int[ADDRESSES];
        final int[] untils = new int[ADDRESSES];
        final int[] lastXids = new int[CLIENTS];

        Server() {
            for (int s = 0; s < SUBNETS; s++) {
                pools[s] = new Pool();
            }
            Arrays.fill(owners, NO_CLIENT);
            // No xid is less than this one, so that the first may be any.
            Arrays.fill(lastXids, Integer.MIN_VALUE);
        }

        int recordsKept() {
            int kept = 0;
            for (int a = 0; a < ADDRESSES; a++) {
                if (states[a] != NO_RECORD) {
                    kept++;
                }
            }
            return kept;
        }

        int freeInPools(int now) {
            int free = 0;
            for (int s = 0; s < SUBNETS; s++) {
                Pool pool = pools[s];
                for (int a = pool.first; pool.exists() && a <= pool.last; a++) {
                    if (isFree(a, now)) {
                        free++;
                    }
                }
            }
            return free;
        }

        /** The place to which the answer goes, or NOWHERE. */
        int hear(Message asked, int now, Message answer) {
            if (!up || asked.op != TO_SERVER) {
                return NOWHERE;
            }
            int subnet = subnetOf(asked);
            int client = asked.chaddr;
            if (!isClient(client) || !isSubnet(subnet) || !pools[subnet].exists()
                    || asked.xid < lastXids[client]) {
                return NOWHERE;
            }
            lastXids[client] = asked.xid;
            answer.start(TO_CLIENT, asked.xid, client);
            answer.giaddr = asked.giaddr;
            lookAt(asked, pools[subnet], now, answer);
            if (answer.kind == NO_TYPE) {
                return NOWHERE;
            }
            return asked.giaddr == NO_ADDRESS || subnet == 0 ? client : relayOf(subnet);
        }

        private static int subnetOf(Message asked) {
            int number = asked.giaddr != NO_ADDRESS ? asked.giaddr : asked.ciaddr;
            return number >> SUBNET_BITS;
        }

        private void lookAt(Message asked, Pool pool, int now, Message answer) {
            switch (asked.kind) {
                case DISCOVER:
                    offer(asked, pool, now, answer);
                    break;
                case REQUEST:
                    request(asked, pool, now, answer);
                    break;
                case DECLINE:
                    if (isOwner(asked.chaddr, asked.wanted)) {
                        write(asked.wanted, DECLINED, NO_CLIENT, now + DECLINE_TICKS);
                    }
                    break;
                case RELEASE:
                    if (isOwner(asked.chaddr, asked.ciaddr) && states[asked.ciaddr] == LEASED) {
                        untils[asked.ciaddr] = now;
                    }
                    break;
                default:
                    break;
            }
        }

        private void offer(Message asked, Pool pool, int now, Message answer) {
            int address = choose(asked, pool, now);
            if (address == NO_ADDRESS) {
                return;
            }
            boolean leased = isOwner(asked.chaddr, address) && states[address] == LEASED && untils[address] > now;
            if (!leased) {
                write(address, OFFERED, asked.chaddr, now + OFFER_TICKS);
            }
            grant(OFFER, address, pool, answer);
        }

        private int choose(Message asked, Pool pool, int now) {
            int own = leastOf(asked.chaddr, pool);
            if (own != NO_ADDRESS) {
                return own;
            }
            if (pool.holds(asked.wanted) && isFree(asked.wanted, now)) {
                return asked.wanted;
            }
            for (int a = pool.first; a <= pool.last; a++) {
                if (states[a] == NO_RECORD) {
                    return a;
                }
            }
            return oldestFree(pool, now);
        }

        private int oldestFree(Pool pool, int now) {
            int oldest = NO_ADDRESS;
            for (int a = pool.first; a <= pool.last; a++) {
                if (isFree(a, now) && (oldest == NO_ADDRESS || untils[a] < untils[oldest])) {
                    oldest = a;
                }
            }
            return oldest;
        }

        private int leastOf(int client, Pool pool) {
            for (int a = pool.first; a <= pool.last; a++) {
                if (owners[a] == client) {
                    return a;
                }
            }
            return NO_ADDRESS;
        }

        private void request(Message asked, Pool pool, int now, Message answer) {
            if (asked.server == SERVER_ADDRESS) {
                boolean kept = pool.holds(asked.wanted) && isOwner(asked.chaddr, asked.wanted)
                        && untils[asked.wanted] > now;
                decide(kept, asked.wanted, pool, now, answer);
            } else if (asked.server != 0) {
                int own = leastOf(asked.chaddr, pool);
                if (own != NO_ADDRESS && states[own] == OFFERED) {
                    write(own, NO_RECORD, NO_CLIENT, 0);
                }
            } else {
                int address = asked.ciaddr != NO_ADDRESS ? asked.ciaddr : asked.wanted;
                if (!pool.holds(address) || states[address] != NO_RECORD) {
                    boolean own = pool.holds(address) && isOwner(asked.chaddr, address);
                    decide(own, address, pool, now, answer);
                }
            }
        }

        private void decide(boolean yes, int address, Pool pool, int now, Message answer) {
            if (!yes) {
                answer.kind = NAK;
                answer.server = SERVER_ADDRESS;
                return;
            }
            int until = now + pool.lease;
            if (states[address] == LEASED) {
                until = Math.max(until, untils[address]);
            }
            states[address] = LEASED;
            untils[address] = until;
            grant(ACK, address, pool, answer);
        }

        private static void grant(int kind, int address, Pool pool, Message answer) {
            answer.kind = kind;
            answer.yiaddr = address;
            answer.lease = pool.lease;
            answer.server = SERVER_ADDRESS;
        }

        private boolean isFree(int address, int now) {
            return states[address] == NO_RECORD || untils[address] <= now;
        }

        private boolean isOwner(int client, int address) {
            return isAddress(address) && owners[address] == client;
        }

        private void write(int address, int state, int client, int until) {
            states[address] = state;
            owners[address] = client;
            untils[address] = until;
        }
    }

    /** What makes a client send something fills the draft, and answers its place, or NOWHERE. */
    private static final class Client {
        final int number;
        int state = OFF;
        int subnet = 0;
        int address = NO_ADDRESS;
        int end = 0;
        int renewal = 0;
        int rebinding = 0;
        int lastXid = 0;
        int attempt = 0;
        int sent = 0;
        int offered = NO_ADDRESS;
        int offerer = 0;

        Client(int itsNumber) {
            number = itsNumber;
        }

        boolean uses() {
            return state == BOUND || state == RENEWING || state == REBINDING;
        }

        int again(int newSubnet, int now, Message draft) {
            subnet = newSubnet;
            if (address == NO_ADDRESS || end <= now) {
                return begin(now, draft);
            }
            state = REBOOTING;
            attempt = 1;
            return say(now, draft);
        }

        int goAway(int now, Message draft) {
            int place = NOWHERE;
            if (uses()) {
                prepare(RELEASE, now, draft);
                draft.ciaddr = address;
                place = SERVER_PLACE;
            }
            forget();
            state = OFF;
            return place;
        }

        int passTime(int now, Message draft) {
            if ((uses() || state == REBOOTING) && end <= now) {
                return begin(now, draft);
            }
            switch (state) {
                case BOUND:
                    return renewal <= now ? turn(RENEWING, now, draft) : NOWHERE;
                case RENEWING:
                    return rebinding <= now ? turn(REBINDING, now, draft) : sayHalfway(rebinding, now, draft);
                case REBINDING:
                    return sayHalfway(end, now, draft);
                case SELECTING:
                case REQUESTING:
                case REBOOTING:
                    return tryNext(now, draft);
                case WAITING:
                    return now - sent >= WAIT_TICKS ? begin(now, draft) : NOWHERE;
                default:
                    return NOWHERE;
            }
        }

        int hear(Message heard, boolean taken, int now, Message draft) {
            if (heard.op != TO_CLIENT || heard.chaddr != number || heard.xid != lastXid) {
                return NOWHERE;
            }
            boolean awaits = state == REQUESTING || state == RENEWING || state == REBINDING || state == REBOOTING;
            if (heard.kind == OFFER && state == SELECTING) {
                return hearOffer(heard, now, draft);
            }
            if (heard.kind == ACK && awaits) {
                return hearAck(heard, taken, now, draft);
            }
            if (heard.kind == NAK && awaits) {
                return begin(now, draft);
            }
            return NOWHERE;
        }

        private int hearOffer(Message heard, int now, Message draft) {
            if (heard.yiaddr == NO_ADDRESS || heard.server == 0) {
                return NOWHERE;
            }
            offered = heard.yiaddr;
            offerer = heard.server;
            state = REQUESTING;
            attempt = 1;
            return say(now, draft);
        }

        private int hearAck(Message heard, boolean taken, int now, Message draft) {
            int lease = Math.min(heard.lease, LONGEST_LEASE);
            if (heard.yiaddr == NO_ADDRESS || lease <= 0 || sent + lease <= now) {
                return NOWHERE;
            }
            if (taken && (state == REQUESTING || state == REBOOTING)) {
                prepare(DECLINE, now, draft);
                draft.wanted = heard.yiaddr;
                forget();
                state = WAITING;
                return broadcastPlace();
            }
            state = BOUND;
            address = heard.yiaddr;
            end = sent + lease;
            renewal = sent + lease / 2;
            rebinding = sent + lease - lease / 8;
            return NOWHERE;
        }

        /** Wherever the document lets a client begin it has no address, or loses it just then. */
        private int begin(int now, Message draft) {
            forget();
            state = SELECTING;
            attempt = 1;
            return say(now, draft);
        }

        private void forget() {
            address = NO_ADDRESS;
            end = 0;
        }

        private int sayHalfway(int deadline, int now, Message draft) {
            int half = Math.max((deadline - sent + 1) / 2, 2);
            return now - sent >= half ? say(now, draft) : NOWHERE;
        }

        private int tryNext(int now, Message draft) {
            int patience = 2 << attempt;
            if (now - sent < patience) {
                return NOWHERE;
            }
            if (attempt >= LAST_TRY && state == REQUESTING) {
                return begin(now, draft);
            }
            if (attempt >= LAST_TRY && state == REBOOTING) {
                state = BOUND;
                return NOWHERE;
            }
            attempt = Math.min(attempt + 1, LAST_TRY);
            return say(now, draft);
        }

        private int turn(int newState, int now, Message draft) {
            state = newState;
            return say(now, draft);
        }

        /** What a client in its state says, for the first time or again. */
        private int say(int now, Message draft) {
            prepare(state == SELECTING ? DISCOVER : REQUEST, now, draft);
            switch (state) {
                case REQUESTING:
                    draft.wanted = offered;
                    draft.server = offerer;
                    break;
                case REBOOTING:
                    draft.wanted = address;
                    break;
                case RENEWING:
                case REBINDING:
                    draft.ciaddr = address;
                    break;
                default:
                    break;
            }
            return state == RENEWING ? SERVER_PLACE : broadcastPlace();
        }

        private void prepare(int kind, int now, Message draft) {
            lastXid++;
            sent = now;
            draft.start(TO_SERVER, lastXid, number);
            draft.kind = kind;
        }

        private int broadcastPlace() {
            return subnet == 0 ? SERVER_PLACE : relayOf(subnet);
        }
    }
}
