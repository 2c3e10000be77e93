import java.util.ArrayList;
import java.util.List;
import java.util.NoSuchElementException;

/** A call that is refused changes nothing: the object goes on like its twin that was never asked. */
final class RefusedTest {
    private static final Class<NoSuchElementException> NO_SUCH = NoSuchElementException.class;
    private static final Class<IllegalArgumentException> ARGUMENT = IllegalArgumentException.class;
    private static final Class<IllegalStateException> STATE = IllegalStateException.class;
    private static final Class<IndexOutOfBoundsException> INDEX = IndexOutOfBoundsException.class;

    interface Call {
        void on(LeaseNet x);
    }

    public static void main(String[] args) {
        Due due = new Due("RefusedTest");
        due.says("A call that throws changes nothing");
        pools(due);
        clients(due);
        packets(due);
        tapes(due);
        looks(due);
        due.says("type: False, changing nothing");
        types(due);
        due.end();
    }

    private static void refused(Due due, String what, Class<? extends RuntimeException> want, Call call) {
        LeaseNet asked = busy();
        LeaseNet twin = busy();
        due.fails(what, want, () -> call.on(asked));
        same(due, what, asked, twin);
    }

    private static void same(Due due, String what, LeaseNet asked, LeaseNet twin) {
        List<Long> got = goOn(asked);
        List<Long> want = goOn(twin);
        due.is(what + ": what is seen", got.size(), want.size());
        for (int i = 0; i < want.size() && i < got.size(); i++) {
            due.is(what + ": then look " + i, got.get(i), want.get(i));
        }
    }

    /**
     * 0 is BOUND, 1 WAITING, 2 OFF with an address, 3 and 4 SELECTING, their packets under way; on the tape
     * is a DISCOVER that lacks its end.
     */
    private static LeaseNet busy() {
        LeaseNet x = Play.with(2, 5, 20);
        x.pool(1, 10, 12, 16);
        x.pool(3, 250, 250, 30);
        x.strange(266, true);
        x.join(0, 0);
        x.join(1, 1);
        x.join(2, 3);
        x.run(200);
        Play.ticks(x, 3);
        x.off(2);
        x.join(3, 1);
        x.join(4, 0);
        Msg.up(5, 7).kind(Msg.DISCOVER).typeOn(x);
        return x;
    }

    private static List<Long> goOn(LeaseNet x) {
        List<Long> seen = new ArrayList<>();
        look(x, seen);
        seen.add(x.type(255, 1) ? 1L : 0L);
        for (int what = 0; what <= 10; what++) {
            seen.add((long) x.told(what));
        }
        x.inject(13);
        seen.add((long) x.run(200));
        x.join(2, 3);
        for (int i = 0; i < 12; i++) {
            seen.add((long) x.tick());
            seen.add((long) x.run(200));
        }
        look(x, seen);
        return seen;
    }

    private static void look(LeaseNet x, List<Long> seen) {
        for (int c = 0; c <= 5; c++) {
            for (int what = 0; what <= 6; what++) {
                seen.add((long) x.client(c, what));
            }
        }
        for (int address : new int[] {2, 3, 4, 5, 266, 267, 268, 1018}) {
            for (int what = 0; what <= 2; what++) {
                seen.add((long) x.record(address, what));
            }
        }
        for (int what = 0; what <= 4; what++) {
            seen.add((long) x.count(what));
        }
        for (int k = 0; k < x.packets(); k++) {
            for (int i = -2; i < x.packet(k, -2); i++) {
                seen.add((long) x.packet(k, i));
            }
        }
    }

    private static void pools(Due due) {
        refused(due, "pool(-1, 2, 3, 8)", NO_SUCH, x -> x.pool(-1, 2, 3, 8));
        refused(due, "pool(4, 2, 3, 8)", NO_SUCH, x -> x.pool(4, 2, 3, 8));
        refused(due, "pool(0, 1, 3, 8)", ARGUMENT, x -> x.pool(0, 1, 3, 8));
        refused(due, "pool(0, 4, 3, 8)", ARGUMENT, x -> x.pool(0, 4, 3, 8));
        refused(due, "pool(0, 3, 251, 8)", ARGUMENT, x -> x.pool(0, 3, 251, 8));
        refused(due, "pool(0, 3, 3, 7)", ARGUMENT, x -> x.pool(0, 3, 3, 7));
        refused(due, "pool(1, 3, 3, 10001)", ARGUMENT, x -> x.pool(1, 3, 3, 10001));
        refused(due, "pool(2, 3, 3, 10001)", ARGUMENT, x -> x.pool(2, 3, 3, 10001));
        refused(due, "strange(0, true)", ARGUMENT, x -> x.strange(0, true));
        refused(due, "strange(1024, true)", ARGUMENT, x -> x.strange(1024, true));
        refused(due, "strange(-1, false)", ARGUMENT, x -> x.strange(-1, false));
    }

    private static void clients(Due due) {
        refused(due, "join(-1, 0)", NO_SUCH, x -> x.join(-1, 0));
        refused(due, "join(12, 0)", NO_SUCH, x -> x.join(12, 0));
        refused(due, "join(2, 4)", NO_SUCH, x -> x.join(2, 4));
        refused(due, "join(2, -1)", NO_SUCH, x -> x.join(2, -1));
        refused(due, "join(0, 1), bound", STATE, x -> x.join(0, 1));
        refused(due, "join(1, 2), waiting", STATE, x -> x.join(1, 2));
        refused(due, "join(3, 2), selecting", STATE, x -> x.join(3, 2));
        refused(due, "off(-1)", NO_SUCH, x -> x.off(-1));
        refused(due, "off(12)", NO_SUCH, x -> x.off(12));
        refused(due, "off(2), off with an address", STATE, x -> x.off(2));
        refused(due, "off(5), off", STATE, x -> x.off(5));
        refused(due, "leave(-1)", NO_SUCH, x -> x.leave(-1));
        refused(due, "leave(12)", NO_SUCH, x -> x.leave(12));
        refused(due, "leave(2), off with an address", STATE, x -> x.leave(2));
        refused(due, "leave(5), off", STATE, x -> x.leave(5));
    }

    private static void packets(Due due) {
        for (int k : new int[] {-1, 2, 60}) {
            refused(due, "packet(" + k + ", 0)", NO_SUCH, x -> x.packet(k, 0));
            refused(due, "carry(" + k + ")", NO_SUCH, x -> x.carry(k));
            refused(due, "twice(" + k + ")", NO_SUCH, x -> x.twice(k));
            refused(due, "drop(" + k + ")", NO_SUCH, x -> x.drop(k));
        }
        refused(due, "packet(0, -3)", INDEX, x -> x.packet(0, -3));
        refused(due, "packet(0, 60)", INDEX, x -> x.packet(0, 60));
        refused(due, "run(-1)", ARGUMENT, x -> x.run(-1));
        refused(due, "run(201)", ARGUMENT, x -> x.run(201));
    }

    private static void tapes(Due due) {
        refused(due, "told(-1)", INDEX, x -> x.told(-1));
        refused(due, "told(11)", INDEX, x -> x.told(11));
        refused(due, "told(0) of a tape without end", ARGUMENT, x -> x.told(0));
        refused(due, "inject(-1)", ARGUMENT, x -> x.inject(-1));
        refused(due, "inject(12)", ARGUMENT, x -> x.inject(12));
        refused(due, "inject(17)", ARGUMENT, x -> x.inject(17));
        LeaseNet empty = new LeaseNet();
        due.fails("inject(16) of an empty tape", ARGUMENT, () -> empty.inject(16));
        due.is("packets()", empty.packets(), 0);
        due.is("lost", empty.count(1), 0);
        due.fails("told(0) of an empty tape", ARGUMENT, () -> empty.told(0));
        due.is("the tape is as it was", empty.type(1, 1), true);
        empty.inject(0);
        due.packet("the tape is as it was", empty, 0, 0, new int[] {1});
    }

    private static void looks(Due due) {
        refused(due, "client(-1, 0)", NO_SUCH, x -> x.client(-1, 0));
        refused(due, "client(12, 0)", NO_SUCH, x -> x.client(12, 0));
        refused(due, "client(0, -1)", INDEX, x -> x.client(0, -1));
        refused(due, "client(0, 7)", INDEX, x -> x.client(0, 7));
        refused(due, "record(0, 0)", INDEX, x -> x.record(0, 0));
        refused(due, "record(1024, 0)", INDEX, x -> x.record(1024, 0));
        refused(due, "record(2, 3)", INDEX, x -> x.record(2, 3));
        refused(due, "count(-1)", INDEX, x -> x.count(-1));
        refused(due, "count(5)", INDEX, x -> x.count(5));
    }

    private static void types(Due due) {
        for (int n : new int[] {Integer.MIN_VALUE, -1, 0, 9, Integer.MAX_VALUE}) {
            LeaseNet asked = busy();
            due.is("type(-1, " + n + ")", asked.type(-1, n), false);
            same(due, "type(-1, " + n + ")", asked, busy());
        }
        LeaseNet full = new LeaseNet();
        Msg.up(3, 9).raw(new int[33]).kind(7).end().typeOn(full);
        for (int n = 5; n <= 8; n++) {
            due.is("type(-1, " + n + ") behind 56", full.type(-1, n), false);
        }
        due.is("type(0x04030201, 4) behind 56", full.type(0x04030201, 4), true);
        full.inject(16);
        due.packet("none of those is there", full, 0, 16, Msg.up(3, 9).raw(new int[33]).kind(7).end().raw(1, 2, 3, 4));
    }
}
