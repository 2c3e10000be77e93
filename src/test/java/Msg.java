import java.util.ArrayList;
import java.util.List;

/** A message of bytes, made by hand for a test. */
final class Msg {
    static final int DISCOVER = 1, OFFER = 2, REQUEST = 3, DECLINE = 4, ACK = 5, NAK = 6, RELEASE = 7;

    private final int[] head = new int[19];
    private final List<Integer> options = new ArrayList<>();

    private Msg(int op, int client, int xid) {
        head[0] = op;
        head[18] = client;
        number(2, xid);
    }

    static Msg up(int client, int xid) {
        return new Msg(1, client, xid);
    }

    static Msg downTo(int client, int xid) {
        return new Msg(2, client, xid);
    }

    private Msg number(int at, int value) {
        for (int i = 0; i < 4; i++) {
            head[at + i] = (value >>> (24 - 8 * i)) & 255;
        }
        return this;
    }

    Msg op(int op) {
        head[0] = op;
        return this;
    }

    Msg hops(int hops) {
        head[1] = hops;
        return this;
    }

    Msg ciaddr(int value) {
        return number(6, value);
    }

    Msg yiaddr(int value) {
        return number(10, value);
    }

    Msg giaddr(int value) {
        return number(14, value);
    }

    Msg kind(int kind) {
        return raw(53, 1, kind);
    }

    Msg wanted(int value) {
        return option(50, value);
    }

    Msg lease(int value) {
        return option(51, value);
    }

    Msg server(int value) {
        return option(54, value);
    }

    private Msg option(int code, int value) {
        return raw(code, 4, value >>> 24, (value >>> 16) & 255, (value >>> 8) & 255, value & 255);
    }

    Msg raw(int... bytes) {
        for (int b : bytes) {
            options.add(b);
        }
        return this;
    }

    Msg end() {
        return raw(255);
    }

    int[] bytes() {
        int[] all = new int[19 + options.size()];
        System.arraycopy(head, 0, all, 0, 19);
        for (int i = 0; i < options.size(); i++) {
            all[19 + i] = options.get(i);
        }
        return all;
    }

    void typeOn(LeaseNet x) {
        typeOn(x, bytes());
    }

    /** By eight bytes a call, for the calls of an object are counted. */
    static void typeOn(LeaseNet x, int... bytes) {
        for (int from = 0; from < bytes.length; from += 8) {
            int count = Math.min(8, bytes.length - from);
            if (!x.type(word(bytes, from, count), count)) {
                throw new AssertionError("the tape is full");
            }
        }
    }

    static long word(int[] bytes, int from, int count) {
        long word = 0;
        for (int i = 0; i < count; i++) {
            word |= (bytes[from + i] & 255L) << (8 * i);
        }
        return word;
    }

    void injectTo(LeaseNet x, int place) {
        typeOn(x);
        x.inject(place);
    }

    /** Comes to its place at once, whatever else is under way. */
    void bringTo(LeaseNet x, int place) {
        injectTo(x, place);
        x.carry(x.packets() - 1);
    }
}
