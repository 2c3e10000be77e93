import java.util.ArrayList;
import java.util.Arrays;
import java.util.List;
import java.util.NoSuchElementException;
import java.util.Random;

/**
 * Calls of any kind with any arguments: none throws but what the face names, the same calls give the same
 * answers, an object that is not asked what another one refused answers all else like that one, and what is
 * seen keeps to the document's bounds. No object is asked more than 512 times.
 */
final class RobustTest {
    private static final int[] ODD = {
        Integer.MIN_VALUE, -256, -3, -2, -1, 0, 1, 2, 3, 4, 11, 12, 13, 16, 17, 59, 60, 61, 200, 201, 255, 256,
        1023, 1024, 10001, Integer.MAX_VALUE,
    };
    private static final long THROWN = Long.MIN_VALUE;
    private static final int CALLS = 260;

    public static void main(String[] args) {
        Due due = new Due("RobustTest");
        for (int seed = 0; seed < 600; seed++) {
            one(due, seed);
        }
        due.end();
    }

    private static void one(Due due, int seed) {
        LeaseNet x = new LeaseNet();
        LeaseNet same = new LeaseNet();
        LeaseNet spared = new LeaseNet();
        int thrown = 0;
        for (int i = 0; i < CALLS; i++) {
            String what = "seed " + seed + ", call " + i;
            long got = call(due, x, random(seed, i));
            due.is(what + ": the same calls, the same answers", call(due, same, random(seed, i)), got);
            if (got == THROWN) {
                thrown++;
            } else {
                due.is(what + ": without those that threw", call(due, spared, random(seed, i)), got);
            }
        }
        due.is("some calls threw", thrown > 0, true);
        List<Integer> seen = look(x);
        due.is("seed " + seed + ": the same calls, the same sight", seen.equals(look(same)), true);
        due.is("seed " + seed + ": what threw changed nothing", seen.equals(look(spared)), true);
        bounds(due, seed, seen);
    }

    /** Each call is drawn for itself, so that it can be made on one object and spared another. */
    private static Random random(int seed, int i) {
        Random r = new Random(seed * 1009L + i);
        r.nextInt();
        return r;
    }

    private static int number(Random r, int common) {
        return r.nextInt(12) == 0 ? ODD[r.nextInt(ODD.length)] : r.nextInt(common);
    }

    private static long call(Due due, LeaseNet x, Random r) {
        int which = r.nextInt(30);
        int p = number(r, 12);
        int q = number(r, 4);
        int s = number(r, 17);
        int t = number(r, 60);
        try {
            return act(x, r, which, p, q, s, t);
        } catch (NoSuchElementException e) {
            due.is("NoSuchElementException of call " + which, among(which, 0, 1, 2, 3, 8, 9, 10, 11, 16), true);
        } catch (IndexOutOfBoundsException e) {
            due.is("IndexOutOfBoundsException of call " + which, among(which, 8, 14, 16, 17, 18), true);
        } catch (IllegalArgumentException e) {
            due.is("IllegalArgumentException of call " + which, among(which, 0, 4, 12, 14, 15, 21), true);
        } catch (IllegalStateException e) {
            due.is("IllegalStateException of call " + which, among(which, 1, 2, 3), true);
        } catch (RuntimeException e) {
            due.is("call " + which + " threw " + e, 1, 0);
        }
        return THROWN;
    }

    private static boolean among(int which, int... those) {
        return Arrays.stream(those).anyMatch(t -> t == which);
    }

    private static long act(LeaseNet x, Random r, int which, int p, int q, int s, int t) {
        switch (which) {
            case 0: x.pool(q, 2 + p % 5, 4 + t % 20, number(r, 40) + 8); return 0;
            case 1: x.join(p, q); return 0;
            case 2: x.off(p); return 0;
            case 3: if (q == 0) x.leave(p); return 0;
            case 4: x.strange(256 * q + s, t % 2 == 0); return 0;
            case 5: x.down(t % 8 == 0); return 0;
            case 7: return x.packets();
            case 8: return x.packet(s, t);
            case 9: return x.carry(s);
            case 10: x.twice(s); return 0;
            case 11: if (q == 0) x.drop(s); return 0;
            case 12: return x.run(t);
            case 13: return x.type(r.nextLong(), q) ? 1 : 0;
            case 14: return x.told(s);
            case 15: case 21: x.inject(s); return x.packets();
            case 16: return x.client(p, q);
            case 17: return x.record(t, q);
            case 18: return x.count(q);
            case 19: case 20: return typed(x, r);
            default: return x.tick();
        }
    }

    /** A message that is whole, unless something is on the tape before it. */
    private static long typed(LeaseNet x, Random r) {
        int op = r.nextInt(2) + 1;
        Msg m = op == 1 ? Msg.up(r.nextInt(13), r.nextInt(20)) : Msg.downTo(r.nextInt(13), r.nextInt(20));
        m.hops(r.nextInt(6)).kind(number(r, 8) & 255);
        if (r.nextBoolean()) m.ciaddr(number(r, 800));
        if (r.nextBoolean()) m.yiaddr(number(r, 800));
        if (r.nextBoolean()) m.giaddr(number(r, 800));
        if (r.nextBoolean()) m.wanted(number(r, 800));
        if (r.nextBoolean()) m.lease(number(r, 50));
        if (r.nextBoolean()) m.server(number(r, 3));
        int[] bytes = m.end().bytes();
        int taken = 0;
        for (int from = 0; from < bytes.length; from += 8) {
            int count = Math.min(8, bytes.length - from);
            taken += x.type(Msg.word(bytes, from, count), count) ? 1 : 0;
        }
        return taken;
    }

    /** The parts of clients, then counts, records of some addresses, and packets. */
    private static List<Integer> look(LeaseNet x) {
        List<Integer> seen = new ArrayList<>();
        for (int c = 0; c < 12; c++) {
            for (int what = 0; what < 7; what++) {
                seen.add(x.client(c, what));
            }
        }
        for (int what = 0; what < 5; what++) {
            seen.add(x.count(what));
        }
        for (int a : new int[] {2, 3, 4, 5, 258, 259, 260, 514, 515, 770}) {
            for (int what = 0; what < 3; what++) {
                seen.add(x.record(a, what));
            }
        }
        seen.add(x.packets());
        for (int k = 0; k < x.packets() && k < 9; k++) {
            seen.add(x.packet(k, -1));
            seen.add(x.packet(k, -2));
            seen.add(x.packet(k, 0));
        }
        return seen;
    }

    private static void bounds(Due due, int seed, List<Integer> seen) {
        int now = seen.get(84);
        for (int c = 0; c < 84; c += 7) {
            int state = seen.get(c);
            boolean uses = state == 3 || state == 4 || state == 5;
            due.is("seed " + seed + ": one that uses an address has one", seen.get(c + 3) != 0, uses);
            due.is("seed " + seed + ": an end and an address", seen.get(c + 2) != 0, seen.get(c + 1) != 0);
            due.is("seed " + seed + ": until later than now", !uses || seen.get(c + 2) > now, true);
        }
        for (int a = 89; a < 119; a += 3) {
            boolean ofNone = seen.get(a) == 0 || seen.get(a) == 3;
            due.is("seed " + seed + ": of no client", seen.get(a + 1) == -1, ofNone);
        }
        due.is("seed " + seed + ": 60 packets at most", seen.get(119) <= 60, true);
    }
}
