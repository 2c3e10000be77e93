import java.lang.reflect.InvocationTargetException;
import java.lang.reflect.Method;
import java.util.ArrayList;
import java.util.Arrays;
import java.util.HashMap;
import java.util.List;
import java.util.Map;
import java.util.Random;
import java.util.TreeMap;

/**
 * Runs of calls, drawn with an eye on what goes on, on a LeaseNet and on a second reading of the document: each
 * call answers the same. A run has 512 calls at most; the last of them look at all that can be seen.
 */
final class ReadingTest {
    private static final int RUNS = 4000;
    private static final int CALLS = 512;
    private static final int[] LEASES = {8, 8, 9, 10, 15, 16, 17, 20, 31, 40, 100, 10000};
    private static final int[] ODD = {Integer.MIN_VALUE, -3, -2, -1, 0, 1, 4, 7, 11, 12, 17, 60, 200, 201, 255, 256,
        1023, 1024, 10001, 65536, Integer.MAX_VALUE};
    /** What the runs must come to, or they would show nothing of it. */
    private static final String[] TO_MEET = {
        "broken comes", "lost", "told", "told, broken", "waited",
        "relay, down", "relay, down to none", "relay, hops", "relay, giaddr set", "relay, giaddr stays",
        "server down", "server, op 2", "server, no client", "server, no pool", "server, old xid", "server, other type",
        "DISCOVER, own", "DISCOVER, wanted", "DISCOVER, fresh", "DISCOVER, oldest", "DISCOVER, none",
        "DISCOVER, leased stays", "REQUEST, server 1, ACK", "REQUEST, server 1, NAK", "REQUEST, another server",
        "REQUEST, another server, none", "REQUEST, not in the pool", "REQUEST, its record", "REQUEST, its past record",
        "REQUEST, another's", "REQUEST, no record", "grant, as long as it was", "grant, the lease",
        "DECLINE", "DECLINE of none", "RELEASE", "RELEASE of none",
        "client, not its own", "client, does not fit", "OFFER", "ACK, late", "ACK, strange in 2", "ACK, strange in 6",
        "ACK in 2", "ACK in 4", "ACK in 5", "ACK in 6", "NAK in 2", "NAK in 4", "NAK in 5", "NAK in 6",
        "again, REBOOTING", "again, past", "again, without", "again in 4", "again in 5", "RENEWING", "REBINDING",
        "end in 3", "end in 4", "end in 5", "end in 6",
        "behind try 1 in 1", "behind try 2 in 1", "behind try 3 in 1", "behind try 1 in 2", "behind try 2 in 2",
        "behind try 3 in 2", "behind try 1 in 6", "behind try 2 in 6", "behind try 3 in 6",
        "leave in 1", "leave in 2", "leave in 3", "leave in 4", "leave in 5", "leave in 6", "leave in 7",
        "off in 1", "off in 2", "off in 3", "off in 4", "off in 5", "off in 6", "off in 7",
    };
    private static final int OFTEN = 20;

    private final Map<String, Method> ofClass = methods(LeaseNet.class);
    private final Map<String, Method> ofReading = methods(Reading.class);
    private final Due due = new Due("ReadingTest");
    private final Map<String, Integer> met = new TreeMap<>();
    private LeaseNet x;
    private Reading reading;
    private Random r;
    private List<String> told;
    private boolean same;
    /** In a run of few clients each comes further. */
    private int busy;

    public static void main(String[] args) {
        new ReadingTest().all();
    }

    private void all() {
        for (int seed = 0; seed < RUNS; seed++) {
            run(seed);
        }
        for (String what : TO_MEET) {
            due.is("runs come to '" + what + "'", met.getOrDefault(what, 0) >= OFTEN, true);
        }
        due.end();
    }

    private static Map<String, Method> methods(Class<?> of) {
        Map<String, Method> all = new HashMap<>();
        Arrays.stream(of.getDeclaredMethods()).forEach(m -> all.put(m.getName(), m));
        return all;
    }

    private void run(int seed) {
        x = new LeaseNet();
        reading = new Reading();
        r = new Random(seed * 7919L);
        told = new ArrayList<>();
        same = true;
        busy = one(1, 2, 3, 4, 12);
        int looks = 120 + r.nextInt(200);
        for (int s = 0; s < 4; s++) {
            if (r.nextInt(4) > 0) {
                makePool(s);
            }
        }
        while (same && told.size() < CALLS - looks) {
            step();
        }
        look();
        reading.met.forEach((what, n) -> met.merge(what, n, Integer::sum));
    }

    /** Calls beyond the 512th are not made, and nothing more once an answer was wrong. */
    private void call(String name, Object... args) {
        if (!same || told.size() >= CALLS) {
            return;
        }
        String got = answer(ofClass.get(name), x, args);
        String want = answer(ofReading.get(name), reading, args);
        told.add(name + Arrays.toString(args) + " = " + got);
        same = got.equals(want);
        if (!same) {
            told.forEach(System.out::println);
        }
        due.is(name + Arrays.toString(args) + " answered " + got + ", by the second reading " + want, same, true);
    }

    private static String answer(Method method, Object on, Object... args) {
        try {
            return String.valueOf(method.invoke(on, args));
        } catch (InvocationTargetException e) {
            return e.getCause().getClass().getSimpleName();
        } catch (IllegalAccessException e) {
            throw new AssertionError(e);
        }
    }

    private int one(int... of) {
        return of[r.nextInt(of.length)];
    }

    private void makePool(int subnet) {
        int low = 2 + r.nextInt(4);
        call("pool", subnet, low, low + r.nextInt(4), one(LEASES));
    }

    private void step() {
        int which = r.nextInt(100);
        if (which < 34) {
            for (int i = r.nextInt(6); i >= 0; i--) {
                call("tick");
            }
        } else if (which < 52) {
            call("run", one(1, 1, 2, 3, 4, 200));
        } else if (which < 66) {
            net();
        } else if (which < 80) {
            clients();
        } else if (which < 84) {
            places();
        } else if (which < 97) {
            forge();
        } else {
            odd();
        }
    }

    private void net() {
        if (reading.row.isEmpty()) {
            return;
        }
        int k = r.nextInt(reading.row.size());
        int which = r.nextInt(8);
        if (which < 4) {
            call("carry", k);
        } else if (which < 6) {
            call("twice", k);
        } else {
            call("drop", k);
        }
    }

    private void clients() {
        int client = r.nextInt(r.nextBoolean() ? Math.min(3, busy) : busy);
        if (r.nextInt(4) == 0) {
            client = oneThatWaits(client);
        }
        int which = r.nextInt(12);
        if (reading.clients[client].state == 0) {
            call("join", client, which < 4 ? reading.clients[client].subnet : r.nextInt(4));
        } else if (which < 4) {
            call("off", client);
            if (which < 3) {
                call("join", client, reading.clients[client].subnet);
            }
        } else if (which == 4) {
            call("leave", client);
        }
    }

    /** In a state that does not last, and that few draws would hit. */
    private int oneThatWaits(int otherwise) {
        return Arrays.stream(reading.clients).filter(c -> c.state >= 4).map(c -> c.number).findFirst()
                .orElse(otherwise);
    }

    private void places() {
        int which = r.nextInt(8);
        if (which < 4) {
            call("strange", address(), r.nextInt(3) > 0);
        } else if (which < 7) {
            call("down", r.nextInt(4) == 0);
        } else {
            makePool(r.nextInt(4));
        }
    }

    /** Most often one that matters. */
    private int address() {
        if (r.nextInt(12) == 0) {
            return one(ODD);
        }
        List<Integer> held = new ArrayList<>(reading.records.keySet());
        if (held.isEmpty() || r.nextInt(4) == 0) {
            return 256 * r.nextInt(4) + 1 + r.nextInt(8);
        }
        return held.get(r.nextInt(held.size()));
    }

    /** A message that nobody sent, to somebody who may believe it. */
    private void forge() {
        int client = r.nextInt(r.nextInt(3) > 0 ? 3 : 14);
        if (r.nextBoolean()) {
            client = oneThatWaits(client);
        }
        Reading.Client of = reading.clients[client % 12];
        int xid = r.nextInt(4) > 0 ? of.xid : r.nextInt(12) == 0 ? one(ODD) : of.xid + r.nextInt(3) - 1;
        boolean up = r.nextBoolean();
        Msg m = up ? Msg.up(client, xid) : Msg.downTo(client, xid);
        boolean fits = r.nextInt(5) > 0;
        m.kind(!fits ? r.nextInt(9) : up ? one(1, 1, 3, 3, 3, 4, 7) : one(2, 5, 5, 6));
        m.hops(r.nextInt(3) > 0 ? 0 : r.nextInt(6));
        if (r.nextInt(3) == 0) m.ciaddr(r.nextBoolean() && of.address != 0 ? of.address : address());
        if (r.nextInt(3) == 0 || !up) m.yiaddr(address());
        if (r.nextInt(3) == 0) m.giaddr(r.nextBoolean() ? 256 * r.nextInt(4) + 1 : address());
        if (r.nextInt(3) > 0) m.wanted(address());
        if (r.nextInt(3) == 0 || !up) m.lease(one(1, one(ODD), r.nextInt(12), r.nextInt(50)));
        if (r.nextInt(2) == 0) m.server(r.nextInt(5) == 0 ? one(ODD) : 1 + r.nextInt(2));
        spoil(m);
        typeAndSend(m.bytes(), up ? one(16, 16, 12 + of.subnet) : r.nextInt(3) > 0 ? client : 13 + r.nextInt(3));
    }

    private void spoil(Msg m) {
        int which = r.nextInt(24);
        switch (which) {
            case 0 -> m.raw(0, 0).end();
            case 1 -> m.raw(7, 2, 53, 1).end();
            case 2 -> m.end().raw(53, 9, 9);
            case 3 -> m.raw(53, 2, 1, 1).end();
            case 4 -> m.raw(one(50, 51, 54), r.nextInt(5), 0, 0, 1, 2).end();
            case 5 -> m.op(r.nextInt(256)).end();
            case 6 -> m.raw(9, 255).end();
            case 7 -> m.raw(53, 1, r.nextInt(9)).end();
            case 8 -> m.raw(r.nextInt(256));
            case 9 -> m.raw(0);
            default -> m.end();
        }
    }

    private void typeAndSend(int[] bytes, int place) {
        int length = r.nextInt(30) == 0 ? r.nextInt(bytes.length) + 1 : bytes.length;
        for (int from = 0; from < length; from += 8) {
            int count = Math.min(8, length - from);
            call("type", Msg.word(bytes, from, count), count);
        }
        if (r.nextInt(3) == 0) {
            call("told", r.nextInt(11));
        }
        call("inject", place);
        if (r.nextInt(3) > 0 && !reading.row.isEmpty()) {
            call("carry", reading.row.size() - 1);
        }
    }

    private void odd() {
        int p = one(ODD);
        int q = one(ODD);
        switch (r.nextInt(20)) {
            case 0 -> call("pool", r.nextBoolean() ? p : r.nextInt(4), 1 + r.nextInt(3), 1 + r.nextInt(5), q);
            case 1 -> call("pool", r.nextInt(4), p, q, 20);
            case 2 -> call("join", p, q);
            case 3 -> call("off", p);
            case 4 -> call("strange", p, true);
            case 5 -> call("packet", p, q);
            case 6 -> call("packet", 0, q);
            case 7 -> call("carry", p);
            case 8 -> call("twice", p);
            case 9 -> call("drop", p);
            case 10 -> call("run", p);
            case 11 -> call("type", r.nextLong(), p);
            case 12 -> call("told", p);
            case 13 -> call("inject", p);
            case 14 -> call("client", p, q);
            case 15 -> call("client", r.nextInt(12), q);
            case 16 -> call("record", p, r.nextInt(3));
            case 17 -> call("record", r.nextInt(1024), q);
            case 18 -> call("count", p);
            default -> flood();
        }
    }

    /** So many packets that the row is full, or nearly. */
    private void flood() {
        if (r.nextInt(4) == 0) {
            for (int n = 55 + r.nextInt(7) - reading.row.size(); n > 0; n--) {
                call("type", r.nextLong(), 1);
                call("inject", r.nextInt(12));
            }
        }
    }

    private void look() {
        for (int what = 0; what < 5; what++) {
            call("count", what);
        }
        for (int client = 0; client < 12; client++) {
            for (int what = reading.clients[client].xid == 0 ? 6 : 0; what < 7; what++) {
                call("client", client, what);
            }
        }
        for (int address : new ArrayList<>(reading.records.keySet())) {
            for (int what = 0; what < 3; what++) {
                call("record", address, what);
            }
        }
        call("packets");
        call("told", r.nextInt(11));
        for (int k = reading.row.size() - 1; k >= 0; k--) {
            for (int i = -2; i < reading.row.get(k).message().length; i++) {
                call("packet", k, i);
            }
        }
    }
}
