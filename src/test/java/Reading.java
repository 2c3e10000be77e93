import java.io.ByteArrayOutputStream;
import java.nio.BufferUnderflowException;
import java.nio.ByteBuffer;
import java.util.ArrayList;
import java.util.Arrays;
import java.util.Comparator;
import java.util.HashMap;
import java.util.List;
import java.util.Map;
import java.util.NoSuchElementException;
import java.util.Optional;
import java.util.TreeMap;
import java.util.function.IntPredicate;
import java.util.stream.IntStream;

/**
 * The document, read a second time and written down word by word with all that the Java library has: slow, wide,
 * and sharing no code with LeaseNet. ReadingTest holds the two against one another. `met` counts what came to pass.
 */
final class Reading {
    final Map<String, Integer> met = new TreeMap<>();
    final Client[] clients = IntStream.range(0, 12).mapToObj(Client::new).toArray(Client[]::new);
    final Map<Integer, Pool> pools = new TreeMap<>();
    final Map<Integer, Held> records = new TreeMap<>();
    final List<Packet> row = new ArrayList<>();
    private final Map<Integer, Integer> lastLookedAt = new HashMap<>();
    private final boolean[] strange = new boolean[1024];
    private ByteArrayOutputStream tape = new ByteArrayOutputStream();
    private boolean down;
    private int lost;
    int now;

    record Packet(int place, byte[] message) {
    }

    record Pool(int subnet, int low, int high, int lease) {
        boolean holds(int address) {
            return address >= 256 * subnet + low && address <= 256 * subnet + high;
        }

        Optional<Integer> least(IntPredicate fits) {
            return addresses().filter(fits).boxed().findFirst();
        }

        IntStream addresses() {
            return IntStream.rangeClosed(256 * subnet + low, 256 * subnet + high);
        }
    }

    /** A record of an address; client -1 is none. */
    record Held(int client, int state, int until) {
    }

    record Heard(int op, int hops, int xid, int ciaddr, int yiaddr, int giaddr, int chaddr,
            Map<Integer, Integer> options) {
        int type() {
            return options.getOrDefault(53, -1);
        }

        int wanted() {
            return options.getOrDefault(50, 0);
        }

        int lease() {
            return options.getOrDefault(51, 0);
        }

        int server() {
            return options.getOrDefault(54, 0);
        }
    }

    /** Null for a broken one. */
    static Heard parse(byte[] message) {
        Map<Integer, Integer> options = new HashMap<>();
        ByteBuffer in = ByteBuffer.wrap(message);
        try {
            Heard heard = new Heard(in.get() & 255, in.get() & 255, in.getInt(), in.getInt(), in.getInt(), in.getInt(),
                    in.get() & 255, options);
            for (int code = in.get() & 255; code != 255; code = in.get() & 255) {
                if (code != 0) {
                    byte[] value = new byte[in.get() & 255];
                    in.get(value);
                    boolean number = code == 50 || code == 51 || code == 54;
                    if (number && value.length != 4 || code == 53 && value.length != 1) {
                        return null;
                    }
                    if (number || code == 53) {
                        options.put(code, number ? ByteBuffer.wrap(value).getInt() : value[0] & 255);
                    }
                }
            }
            return heard.op == 1 || heard.op == 2 ? heard : null;
        } catch (BufferUnderflowException e) {
            return null;
        }
    }

    /** Options: code, value, code, value. */
    private static byte[] made(int op, int xid, int ciaddr, int yiaddr, int giaddr, int chaddr, int... options) {
        ByteBuffer out = ByteBuffer.allocate(60);
        out.put((byte) op).put((byte) 0).putInt(xid).putInt(ciaddr).putInt(yiaddr).putInt(giaddr).put((byte) chaddr);
        for (int i = 0; i < options.length; i += 2) {
            out.put((byte) options[i]);
            if (options[i] == 53) {
                out.put((byte) 1).put((byte) options[i + 1]);
            } else {
                out.put((byte) 4).putInt(options[i + 1]);
            }
        }
        out.put((byte) 255);
        return Arrays.copyOf(out.array(), out.position());
    }

    private void met(String what) {
        met.merge(what, 1, Integer::sum);
    }

    private void send(int place, byte[] message) {
        if (row.size() == 60) {
            lost++;
            met("lost");
        } else {
            row.add(new Packet(place, message));
        }
    }

    private void come(Packet packet) {
        Heard m = parse(packet.message);
        if (m == null) {
            met("broken comes");
        } else if (packet.place < 12) {
            clients[packet.place].hear(m);
        } else if (packet.place == 16) {
            serve(m);
        } else {
            relay(packet.place - 12, m, packet.message.clone());
        }
    }

    private void relay(int subnet, Heard m, byte[] message) {
        if (m.op == 2) {
            met(m.chaddr < 12 ? "relay, down" : "relay, down to none");
            if (m.chaddr < 12) {
                send(m.chaddr, message);
            }
        } else if (m.hops >= 4) {
            met("relay, hops");
        } else {
            message[1]++;
            met(m.giaddr == 0 ? "relay, giaddr set" : "relay, giaddr stays");
            if (m.giaddr == 0) {
                ByteBuffer.wrap(message).putInt(14, 256 * subnet + 1);
            }
            send(16, message);
        }
    }

    private void serve(Heard m) {
        int subnet = (m.giaddr != 0 ? m.giaddr : m.ciaddr) >> 8;
        if (down || m.op != 1) {
            met(down ? "server down" : "server, op 2");
        } else if (m.chaddr >= 12 || !pools.containsKey(subnet)) {
            met(m.chaddr >= 12 ? "server, no client" : "server, no pool");
        } else if (lastLookedAt.containsKey(m.chaddr) && m.xid < lastLookedAt.get(m.chaddr)) {
            met("server, old xid");
        } else {
            lastLookedAt.put(m.chaddr, m.xid);
            Pool pool = pools.get(subnet);
            switch (m.type()) {
                case 1 -> discover(m, pool);
                case 3 -> request(m, pool);
                case 4 -> {
                    met(of(m.wanted(), m.chaddr) ? "DECLINE" : "DECLINE of none");
                    if (of(m.wanted(), m.chaddr)) {
                        records.put(m.wanted(), new Held(-1, 3, now + 100));
                    }
                }
                case 7 -> {
                    boolean leased = of(m.ciaddr, m.chaddr) && records.get(m.ciaddr).state == 2;
                    met(leased ? "RELEASE" : "RELEASE of none");
                    if (leased) {
                        records.put(m.ciaddr, new Held(m.chaddr, 2, now));
                    }
                }
                default -> met("server, other type");
            }
        }
    }

    private boolean of(int address, int client) {
        return records.containsKey(address) && records.get(address).client == client;
    }

    private boolean free(int address) {
        return !records.containsKey(address) || records.get(address).until <= now;
    }

    private void answer(Heard m, int yiaddr, int... options) {
        int relay = m.giaddr >> 8;
        send(m.giaddr == 0 || relay == 0 ? m.chaddr : 12 + relay,
                made(2, m.xid, 0, yiaddr, m.giaddr, m.chaddr, options));
    }

    private void discover(Heard m, Pool pool) {
        Optional<Integer> own = pool.least(a -> of(a, m.chaddr));
        Optional<Integer> wanted = pool.least(a -> a == m.wanted() && free(a));
        Optional<Integer> fresh = pool.least(a -> !records.containsKey(a));
        Optional<Integer> oldest = pool.addresses().filter(this::free).boxed()
                .min(Comparator.<Integer>comparingInt(a -> records.containsKey(a) ? records.get(a).until : 0)
                        .thenComparingInt(a -> a));
        met(own.isPresent() ? "DISCOVER, own" : wanted.isPresent() ? "DISCOVER, wanted"
                : fresh.isPresent() ? "DISCOVER, fresh" : oldest.isPresent() ? "DISCOVER, oldest" : "DISCOVER, none");
        Optional<Integer> that = own.or(() -> wanted).or(() -> fresh).or(() -> oldest);
        if (that.isEmpty()) {
            return;
        }
        Held held = records.get(that.get());
        if (held != null && held.client == m.chaddr && held.state == 2 && held.until > now) {
            met("DISCOVER, leased stays");
        } else {
            records.put(that.get(), new Held(m.chaddr, 1, now + 8));
        }
        answer(m, that.get(), 53, 2, 51, pool.lease, 54, 1);
    }

    private void request(Heard m, Pool pool) {
        if (m.server() == 1) {
            boolean good = pool.holds(m.wanted()) && of(m.wanted(), m.chaddr) && records.get(m.wanted()).until > now;
            met(good ? "REQUEST, server 1, ACK" : "REQUEST, server 1, NAK");
            grant(m, good, m.wanted(), pool);
        } else if (m.server() != 0) {
            Optional<Integer> own = pool.least(a -> of(a, m.chaddr));
            boolean goes = own.isPresent() && records.get(own.get()).state == 1;
            met(goes ? "REQUEST, another server" : "REQUEST, another server, none");
            if (goes) {
                records.remove(own.get());
            }
        } else {
            int address = m.ciaddr != 0 ? m.ciaddr : m.wanted();
            if (!pool.holds(address)) {
                met("REQUEST, not in the pool");
                grant(m, false, address, pool);
            } else if (of(address, m.chaddr)) {
                met(records.get(address).until > now ? "REQUEST, its record" : "REQUEST, its past record");
                grant(m, true, address, pool);
            } else if (records.containsKey(address)) {
                met("REQUEST, another's");
                grant(m, false, address, pool);
            } else {
                met("REQUEST, no record");
            }
        }
    }

    private void grant(Heard m, boolean good, int address, Pool pool) {
        if (!good) {
            answer(m, 0, 53, 6, 54, 1);
            return;
        }
        Held held = records.get(address);
        boolean longer = held.state == 2 && held.until > now + pool.lease;
        met(longer ? "grant, as long as it was" : "grant, the lease");
        records.put(address, new Held(m.chaddr, 2, longer ? held.until : now + pool.lease));
        answer(m, address, 53, 5, 51, pool.lease, 54, 1);
    }

    final class Client {
        final int number;
        int state;
        int subnet;
        int address;
        int end;
        int renewal;
        int rebinding;
        int xid;
        int attempt;
        int sent;
        private int offered;
        private int offerer;

        Client(int number) {
            this.number = number;
        }

        boolean uses() {
            return state == 3 || state == 4 || state == 5;
        }

        private void say(int place, int ciaddr, int... options) {
            xid++;
            sent = now;
            send(place, made(1, xid, ciaddr, 0, 0, number, options));
        }

        private int all() {
            return subnet == 0 ? 16 : 12 + subnet;
        }

        private void loseAddress() {
            address = 0;
            end = 0;
        }

        private void begin() {
            loseAddress();
            state = 1;
            attempt = 1;
            say(all(), 0, 53, 1);
        }

        void again(int newSubnet) {
            subnet = newSubnet;
            if (address != 0 && end > now) {
                met("again, REBOOTING");
                state = 6;
                attempt = 1;
                say(all(), 0, 53, 3, 50, address);
            } else {
                met(address != 0 ? "again, past" : "again, without");
                begin();
            }
        }

        void leave() {
            met("leave in " + state);
            if (uses()) {
                say(16, address, 53, 7);
            }
            loseAddress();
            state = 0;
        }

        void hear(Heard m) {
            boolean awaits = state == 2 || state == 4 || state == 5 || state == 6;
            if (m.op != 2 || m.chaddr != number || m.xid != xid) {
                met("client, not its own");
            } else if (m.type() == 2 && state == 1 && m.yiaddr != 0 && m.server() != 0) {
                met("OFFER");
                offered = m.yiaddr;
                offerer = m.server();
                state = 2;
                attempt = 1;
                say(all(), 0, 53, 3, 50, offered, 54, offerer);
            } else if (m.type() == 5 && awaits && m.yiaddr != 0 && m.lease() > 0) {
                ack(m.yiaddr, m.lease() > 10000 ? 10000 : m.lease());
            } else if (m.type() == 6 && awaits) {
                met("NAK in " + state);
                begin();
            } else {
                met("client, does not fit");
            }
        }

        private void ack(int yiaddr, int lease) {
            if (sent + lease <= now) {
                met("ACK, late");
            } else if ((state == 2 || state == 6) && yiaddr > 0 && yiaddr < 1024 && strange[yiaddr]) {
                met("ACK, strange in " + state);
                say(all(), 0, 53, 4, 50, yiaddr);
                loseAddress();
                state = 7;
            } else {
                met("ACK in " + state);
                state = 3;
                address = yiaddr;
                end = sent + lease;
                renewal = sent + lease / 2;
                rebinding = sent + lease - lease / 8;
            }
        }

        void tick() {
            if ((uses() || state == 6) && end <= now) {
                met("end in " + state);
                begin();
            } else if (state == 3 && renewal <= now) {
                met("RENEWING");
                state = 4;
                say(16, address, 53, 3);
            } else if (state == 4 && rebinding <= now) {
                met("REBINDING");
                state = 5;
                say(all(), address, 53, 3);
            } else if (state == 4 || state == 5) {
                double half = ((state == 4 ? rebinding : end) - sent) / 2.0;
                if (now - sent >= Math.max(2, Math.ceil(half))) {
                    met("again in " + state);
                    say(state == 4 ? 16 : all(), address, 53, 3);
                }
            } else if (state == 7 && now - sent >= 10) {
                met("waited");
                begin();
            } else if ((state == 1 || state == 2 || state == 6) && now - sent >= List.of(4, 8, 16).get(attempt - 1)) {
                met("behind try " + attempt + " in " + state);
                next();
            }
        }

        private void next() {
            if (attempt == 3 && state == 2) {
                begin();
            } else if (attempt == 3 && state == 6) {
                state = 3;
            } else {
                attempt = attempt == 3 ? 3 : attempt + 1;
                switch (state) {
                    case 1 -> say(all(), 0, 53, 1);
                    case 2 -> say(all(), 0, 53, 3, 50, offered, 54, offerer);
                    default -> say(all(), 0, 53, 3, 50, address);
                }
            }
        }
    }

    private Client theClient(int client) {
        if (client < 0 || client > 11) {
            throw new NoSuchElementException();
        }
        return clients[client];
    }

    private Client theClientThatIsOn(int client) {
        if (theClient(client).state == 0) {
            throw new IllegalStateException();
        }
        return clients[client];
    }

    private static void theSubnet(int subnet) {
        if (subnet < 0 || subnet > 3) {
            throw new NoSuchElementException();
        }
    }

    private Packet thePacket(int k) {
        if (k < 0 || k >= row.size()) {
            throw new NoSuchElementException();
        }
        return row.get(k);
    }

    void pool(int subnet, int low, int high, int lease) {
        theSubnet(subnet);
        if (!(2 <= low && low <= high && high <= 250) || !(8 <= lease && lease <= 10000)) {
            throw new IllegalArgumentException();
        }
        pools.put(subnet, new Pool(subnet, low, high, lease));
    }

    void join(int client, int subnet) {
        theClient(client);
        theSubnet(subnet);
        if (clients[client].state != 0) {
            throw new IllegalStateException();
        }
        clients[client].again(subnet);
    }

    void off(int client) {
        met("off in " + theClientThatIsOn(client).state);
        clients[client].state = 0;
    }

    void leave(int client) {
        theClientThatIsOn(client).leave();
    }

    void strange(int address, boolean is) {
        if (address < 1 || address > 1023) {
            throw new IllegalArgumentException();
        }
        strange[address] = is;
    }

    void down(boolean is) {
        down = is;
    }

    int tick() {
        now++;
        Arrays.stream(clients).forEach(Client::tick);
        return now;
    }

    int packets() {
        return row.size();
    }

    int packet(int k, int i) {
        Packet packet = thePacket(k);
        if (i < -2 || i >= packet.message.length) {
            throw new IndexOutOfBoundsException();
        }
        return i == -2 ? packet.message.length : i == -1 ? packet.place : packet.message[i] & 255;
    }

    int carry(int k) {
        Packet packet = thePacket(k);
        row.remove(k);
        come(packet);
        return packet.place;
    }

    void twice(int k) {
        come(thePacket(k));
    }

    void drop(int k) {
        thePacket(k);
        row.remove(k);
    }

    int run(int n) {
        if (n < 0 || n > 200) {
            throw new IllegalArgumentException();
        }
        int carried = 0;
        for (; carried < n && !row.isEmpty(); carried++) {
            come(row.remove(0));
        }
        return carried;
    }

    boolean type(long w, int n) {
        if (n < 1 || n > 8 || tape.size() + n > 60) {
            return false;
        }
        for (int i = 0; i < n; i++) {
            tape.write((int) (w >> (8 * i)));
        }
        return true;
    }

    int told(int what) {
        if (what < 0 || what > 10) {
            throw new IndexOutOfBoundsException();
        }
        Heard m = parse(tape.toByteArray());
        met(m == null ? "told, broken" : "told");
        if (m == null) {
            throw new IllegalArgumentException();
        }
        return List.of(m.op, m.hops, m.xid, m.ciaddr, m.yiaddr, m.giaddr, m.chaddr,
                m.type(), m.wanted(), m.lease(), m.server()).get(what);
    }

    void inject(int place) {
        if (place < 0 || place > 16 || place == 12 || tape.size() == 0) {
            throw new IllegalArgumentException();
        }
        send(place, tape.toByteArray());
        tape = new ByteArrayOutputStream();
    }

    int client(int client, int what) {
        Client c = theClient(client);
        if (what < 0 || what > 6) {
            throw new IndexOutOfBoundsException();
        }
        return new int[] {c.state, c.address, c.end, c.uses() ? c.address : 0, c.xid, c.attempt, c.subnet}[what];
    }

    int record(int address, int what) {
        if (address < 1 || address > 1023 || what < 0 || what > 2) {
            throw new IndexOutOfBoundsException();
        }
        Held held = records.getOrDefault(address, new Held(-1, 0, 0));
        return new int[] {held.state, held.client, held.until}[what];
    }

    int count(int what) {
        if (what < 0 || what > 4) {
            throw new IndexOutOfBoundsException();
        }
        long free = pools.values().stream().flatMapToInt(Pool::addresses).filter(this::free).count();
        return new int[] {now, lost, records.size(), down ? 0 : 1, (int) free}[what];
    }
}
