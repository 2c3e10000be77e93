import java.util.NoSuchElementException;

/** Promises 3, 4 and 5: join, off, leave. */
final class JoinTest {
    public static void main(String[] args) {
        Due due = new Due("JoinTest");
        wrongInputs(due);
        joinBegins(due);
        again(due);
        againTooLate(due);
        off(due);
        leave(due);
        leaveWithoutUse(due);
        due.end();
    }

    private static void wrongInputs(Due due) {
        LeaseNet x = new LeaseNet();
        for (int c : new int[] {-1, 12, 99, Integer.MIN_VALUE, Integer.MAX_VALUE}) {
            due.fails("join(" + c + ", 0)", NoSuchElementException.class, () -> x.join(c, 0));
            due.fails("off(" + c + ")", NoSuchElementException.class, () -> x.off(c));
            due.fails("leave(" + c + ")", NoSuchElementException.class, () -> x.leave(c));
        }
        due.fails("join(0, -1)", NoSuchElementException.class, () -> x.join(0, -1));
        due.fails("join(0, 4)", NoSuchElementException.class, () -> x.join(0, 4));
        due.fails("off of one that is off", IllegalStateException.class, () -> x.off(11));
        due.fails("leave of one that is off", IllegalStateException.class, () -> x.leave(11));
        x.join(11, 3);
        due.fails("join of one that is not off", IllegalStateException.class, () -> x.join(11, 3));
        due.fails("no such subnet comes first", NoSuchElementException.class, () -> x.join(11, 4));
        due.client("changed by none", x, 11, 1, 0, 0, 0, 1, 1, 3);
        due.is("packets()", x.packets(), 1);
    }

    private static void joinBegins(Due due) {
        for (int subnet = 0; subnet < 4; subnet++) {
            LeaseNet x = new LeaseNet();
            x.join(7, subnet);
            due.client("join begins", x, 7, 1, 0, 0, 0, 1, 1, subnet);
            due.packet("by DISCOVER to the relay, or the server", x, 0, subnet == 0 ? 16 : 12 + subnet,
                    Msg.up(7, 1).kind(Msg.DISCOVER).end());
            due.is("packets()", x.packets(), 1);
        }
    }

    private static void again(Due due) {
        LeaseNet x = new LeaseNet();
        x.pool(1, 10, 20, 40);
        x.join(2, 1);
        x.run(200);
        due.client("bound", x, 2, 3, 266, 40, 266, 2, 1, 1);
        x.off(2);
        for (int i = 0; i < 39; i++) {
            x.tick();
        }
        x.join(2, 0);
        due.client("again, with its address, on another subnet", x, 2, 6, 266, 40, 0, 3, 1, 0);
        due.packet("REQUEST, wanted", x, 0, 16, Msg.up(2, 3).kind(Msg.REQUEST).wanted(266).end());
        for (int i = 0; i < 4; i++) {
            x.tick();
        }
        due.client("its end comes first", x, 2, 1, 0, 0, 0, 4, 1, 0);
        tryIsOneAgain(due);
    }

    private static void tryIsOneAgain(Due due) {
        LeaseNet x = new LeaseNet();
        x.pool(0, 10, 20, 40);
        x.join(2, 0);
        x.run(3);
        x.drop(0);
        for (int i = 0; i < 4; i++) {
            x.tick();
        }
        x.run(200);
        due.client("bound in try 2", x, 2, 3, 10, 44, 10, 3, 2, 0);
        x.off(2);
        due.client("its last try", x, 2, 0, 10, 44, 0, 3, 2, 0);
        x.join(2, 0);
        due.client("again in try 1", x, 2, 6, 10, 44, 0, 4, 1, 0);
    }

    private static void againTooLate(Due due) {
        LeaseNet x = new LeaseNet();
        x.pool(0, 10, 20, 40);
        x.join(2, 0);
        x.run(200);
        x.off(2);
        for (int i = 0; i < 40; i++) {
            x.tick();
        }
        due.client("off keeps address and end, even when it is past", x, 2, 0, 10, 40, 0, 2, 1, 0);
        x.join(2, 1);
        due.client("the end is not later than now", x, 2, 1, 0, 0, 0, 3, 1, 1);
        due.packet("so it begins", x, 0, 13, Msg.up(2, 3).kind(Msg.DISCOVER).end());
    }

    private static void off(Due due) {
        LeaseNet x = new LeaseNet();
        x.pool(0, 2, 3, 100);
        x.join(0, 0);
        x.off(0);
        due.client("off while selecting", x, 0, 0, 0, 0, 0, 1, 1, 0);
        due.is("what it sent is under way still", x.packets(), 1);
        x.run(200);
        due.client("it does not hear the offer", x, 0, 0, 0, 0, 0, 1, 1, 0);
        for (int i = 0; i < 50; i++) {
            x.tick();
        }
        due.is("it sends nothing", x.packets(), 0);
        x.join(0, 0);
        x.run(200);
        due.client("bound", x, 0, 3, 2, 150, 2, 3, 1, 0);
        x.off(0);
        due.client("off", x, 0, 0, 2, 150, 0, 3, 1, 0);
        due.is("off sends nothing", x.packets(), 0);
        due.record("off", x, 2, 2, 0, 150);
    }

    private static void leave(Due due) {
        LeaseNet x = new LeaseNet();
        x.pool(2, 5, 5, 16);
        x.join(4, 2);
        x.run(200);
        x.tick();
        x.leave(4);
        due.client("left", x, 4, 0, 0, 0, 0, 3, 1, 2);
        due.packet("RELEASE to the server itself", x, 0, 16, Msg.up(4, 3).ciaddr(517).kind(Msg.RELEASE).end());
        due.record("not yet", x, 517, 2, 4, 16);
        x.run(200);
        due.record("released", x, 517, 2, 4, 1);
        x.join(4, 2);
        due.client("without an address it begins", x, 4, 1, 0, 0, 0, 4, 1, 2);
        x.run(200);
        for (int i = 0; i < 9; i++) {
            x.tick();
        }
        due.client("renewing", x, 4, 4, 517, 17, 517, 6, 1, 2);
        x.leave(4);
        due.packet("a renewing one releases too", x, 1, 16, Msg.up(4, 7).ciaddr(517).kind(Msg.RELEASE).end());
        due.client("left", x, 4, 0, 0, 0, 0, 7, 1, 2);
    }

    private static void leaveWithoutUse(Due due) {
        LeaseNet x = new LeaseNet();
        x.pool(0, 2, 3, 100);
        x.join(0, 0);
        x.leave(0);
        due.client("left while selecting", x, 0, 0, 0, 0, 0, 1, 1, 0);
        due.is("no RELEASE", x.packets(), 1);
        x.drop(0);
        x.join(0, 0);
        x.run(200);
        x.off(0);
        x.join(0, 0);
        due.client("rebooting", x, 0, 6, 2, 100, 0, 4, 1, 0);
        x.leave(0);
        due.client("one that reboots has an address, but does not use it", x, 0, 0, 0, 0, 0, 4, 1, 0);
        due.is("no RELEASE", x.packets(), 1);
    }
}
