import java.util.Arrays;
import java.util.NoSuchElementException;
import java.util.Random;

/**
 * Calls of any kind with any arguments: none throws but what the face names, one that throws changes
 * nothing, the same calls give the same answers, and what is seen keeps to the document's bounds.
 */
final class RobustTest {
    private static final int[] ODD = {
        Integer.MIN_VALUE, -256, -3, -2, -1, 0, 1, 2, 3, 4, 11, 12, 13, 16, 17, 59, 60, 61, 200, 201, 255, 256,
        1023, 1024, 10001, Integer.MAX_VALUE,
    };
    private static final long THROWN = Long.MIN_VALUE;

    public static void main(String[] args) {
        Due due = new Due("RobustTest");
        for (int seed = 0; seed < 300; seed++) {
            one(due, seed);
        }
        due.end();
    }

    private static void one(Due due, int seed) {
        LeaseNet x = new LeaseNet();
        LeaseNet y = new LeaseNet();
        Random a = new Random(seed);
        Random b = new Random(seed);
        int thrown = 0;
        for (int i = 0; i < 512; i++) {
            boolean look = i % 8 == 0;
            long[] before = look ? seen(x) : null;
            long got = call(due, x, a);
            due.is("seed " + seed + ", call " + i + ": the same calls, the same answers", got, call(due, y, b));
            if (got == THROWN) {
                thrown++;
                if (look) {
                    due.is("seed " + seed + ", call " + i + " threw, and changed nothing",
                            Arrays.equals(before, seen(x)), true);
                }
            }
        }
        due.is("some calls threw", thrown > 0, true);
        bounds(due, seed, x);
    }

    private static int number(Random r, int common) {
        return r.nextInt(12) == 0 ? ODD[r.nextInt(ODD.length)] : r.nextInt(common);
    }

    private static long call(Due due, LeaseNet x, Random r) {
        int which = r.nextInt(30);
        int p = number(r, 12);
        int q = number(r, 4);
        int s = number(r, 17);
        int t = number(r, 60);
        try {
            return act(x, r, which, p, q, s, t);
        } catch (NoSuchElementException e) {
            due.is("NoSuchElementException of call " + which, among(which, 0, 1, 2, 3, 8, 9, 10, 11, 16), true);
        } catch (IndexOutOfBoundsException e) {
            due.is("IndexOutOfBoundsException of call " + which, among(which, 8, 14, 16, 17, 18), true);
        } catch (IllegalArgumentException e) {
            due.is("IllegalArgumentException of call " + which, among(which, 0, 4, 12, 14, 15, 19, 20), true);
        } catch (IllegalStateException e) {
            due.is("IllegalStateException of call " + which, among(which, 1, 2, 3), true);
        } catch (RuntimeException e) {
            due.is("call " + which + " threw " + e, 1, 0);
        }
        return THROWN;
    }

    private static boolean among(int which, int... those) {
        return Arrays.stream(those).anyMatch(t -> t == which);
    }

    private static long act(LeaseNet x, Random r, int which, int p, int q, int s, int t) {
        switch (which) {
            case 0: x.pool(q, 2 + p % 5, 4 + t % 20, number(r, 40) + 8); return 0;
            case 1: x.join(p, q); return 0;
            case 2: x.off(p); return 0;
            case 3: if (q == 0) x.leave(p); return 0;
            case 4: x.strange(256 * q + s, t % 2 == 0); return 0;
            case 5: x.down(t % 8 == 0); return 0;
            case 7: return x.packets();
            case 8: return x.packet(s, t);
            case 9: return x.carry(s);
            case 10: x.twice(s); return 0;
            case 11: if (q == 0) x.drop(s); return 0;
            case 12: return x.run(t);
            case 13: return x.type(r.nextLong(), q) ? 1 : 0;
            case 14: return x.told(s);
            case 15: x.inject(s); return 0;
            case 16: return x.client(p, q);
            case 17: return x.record(t, q);
            case 18: return x.count(q);
            case 19: case 20: return typed(x, r, s);
            default: return x.tick();
        }
    }

    /** A message that is whole, for the most part. */
    private static long typed(LeaseNet x, Random r, int place) {
        int op = r.nextInt(2) + 1;
        Msg m = op == 1 ? Msg.up(r.nextInt(13), r.nextInt(20)) : Msg.downTo(r.nextInt(13), r.nextInt(20));
        m.hops(r.nextInt(6)).kind(number(r, 8));
        if (r.nextBoolean()) m.ciaddr(number(r, 800));
        if (r.nextBoolean()) m.yiaddr(number(r, 800));
        if (r.nextBoolean()) m.giaddr(number(r, 800));
        if (r.nextBoolean()) m.wanted(number(r, 800));
        if (r.nextBoolean()) m.lease(number(r, 50));
        if (r.nextBoolean()) m.server(number(r, 3));
        m.end();
        for (int b : m.bytes()) {
            x.type(b & 255, 1);
        }
        x.inject(place);
        return x.packets();
    }

    private static long[] seen(LeaseNet x) {
        long[] all = new long[20000];
        int n = 0;
        for (int c = 0; c < 12; c++) {
            for (int w = 0; w < 7; w++) {
                all[n++] = x.client(c, w);
            }
        }
        for (int a = 1; a < 1024; a++) {
            for (int w = 0; w < 3; w++) {
                all[n++] = x.record(a, w);
            }
        }
        for (int w = 0; w < 5; w++) {
            all[n++] = x.count(w);
        }
        for (int k = 0; k < x.packets(); k++) {
            for (int i = -2; i < x.packet(k, -2); i++) {
                all[n++] = x.packet(k, i);
            }
        }
        return Arrays.copyOf(all, n);
    }

    private static void bounds(Due due, int seed, LeaseNet x) {
        due.is("seed " + seed + ": 60 packets at most", x.packets() <= 60, true);
        int records = 0;
        for (int a = 1; a < 1024; a++) {
            int state = x.record(a, 0);
            records += state == 0 ? 0 : 1;
            due.is("seed " + seed + ": of no client", x.record(a, 1) == -1, state == 0 || state == 3);
        }
        due.is("seed " + seed + ": records", x.count(2), records);
        for (int c = 0; c < 12; c++) {
            int state = x.client(c, 0);
            boolean uses = state == 3 || state == 4 || state == 5;
            due.is("seed " + seed + ": one that uses an address has one", x.client(c, 3) != 0, uses);
            due.is("seed " + seed + ": an end and an address", x.client(c, 2) != 0, x.client(c, 1) != 0);
            if (uses) {
                due.is("seed " + seed + ": until later than now", x.client(c, 2) > x.count(0), true);
            }
        }
    }
}
