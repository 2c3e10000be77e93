/** The edges of messages and of their options, sentence by sentence, as the tape tells them. */
final class EdgesOfMessagesTest {
    private static final int[] CODES = {50, 51, 53, 54};

    public static void main(String[] args) {
        Due due = new Due("EdgesOfMessagesTest");
        tooShort(due);
        ops(due);
        withoutEnd(due);
        otherLengths(due);
        nothingBytes(due);
        behindTheEnd(due);
        severalOfOneCode(due);
        otherCodes(due);
        numbers(due);
        singleBytes(due);
        optionNumbers(due);
        everyByteOfTheTape(due);
        messagesThatAreMade(due);
        due.end();
    }

    private static LeaseNet tape(int... bytes) {
        LeaseNet x = new LeaseNet();
        Msg.typeOn(x, bytes);
        return x;
    }

    private static void isBroken(Due due, String what, Msg message) {
        isBroken(due, what, message.bytes());
    }

    private static void isBroken(Due due, String what, int... bytes) {
        LeaseNet x = tape(bytes);
        due.fails(what + ": told(0)", IllegalArgumentException.class, () -> x.told(0));
        due.fails(what + ": told(10)", IllegalArgumentException.class, () -> x.told(10));
    }

    private static void isWhole(Due due, String what, Msg message, int kind, int wanted, int lease, int server) {
        LeaseNet x = tape(message.bytes());
        int[] want = {kind, wanted, lease, server};
        due.fails(what + " is whole", null, () -> x.told(0));
        for (int i = 0; i < 4; i++) {
            due.is(what + ": told(" + (7 + i) + ")", x.told(7 + i), want[i]);
        }
    }

    private static void tooShort(Due due) {
        due.says("BROKEN with less than 19 bytes");
        due.fails("no byte", IllegalArgumentException.class, () -> new LeaseNet().told(0));
        for (int length = 1; length <= 19; length++) {
            int[] bytes = new int[length];
            bytes[0] = 1;
            isBroken(due, length + " bytes", bytes);
            for (int i = 1; i < length; i++) {
                bytes[i] = 255;
            }
            isBroken(due, length + " bytes that look like ends", bytes);
        }
        isWhole(due, "19 bytes and the end", Msg.up(255, -1).end(), -1, 0, 0, 0);
    }

    private static void ops(Due due) {
        due.says("BROKEN with an op that is neither (1 to the server, 2 to clients)");
        for (int op = 0; op < 256; op++) {
            LeaseNet x = tape(Msg.up(0, 0).op(op).end().bytes());
            if (op == 1 || op == 2) {
                due.is("told(0)", x.told(0), op);
            } else {
                due.fails("op " + op, IllegalArgumentException.class, () -> x.told(0));
            }
        }
    }

    private static void withoutEnd(Due due) {
        due.says("BROKEN without end");
        isBroken(due, "no option", Msg.up(0, 0));
        isBroken(due, "nothing but nothing", Msg.up(0, 0).raw(new int[41]));
        isBroken(due, "an option", Msg.up(0, 0).kind(1));
        isBroken(due, "options of each code", Msg.up(0, 0).kind(1).wanted(2).lease(3).server(4));
        isBroken(due, "another option", Msg.up(0, 0).raw(9, 2, 1, 1));
        for (int code : new int[] {1, 50, 51, 53, 54, 254}) {
            isBroken(due, "a code at last", Msg.up(0, 0).raw(code));
            isBroken(due, "a code and a length at last", Msg.up(0, 0).raw(code, code == 53 ? 1 : 4));
        }
        isBroken(due, "a length that takes the end with it", Msg.up(0, 0).raw(9, 1, 255));
        isBroken(due, "a length of 255", Msg.up(0, 0).raw(9, 255, 255));
        isBroken(due, "a length one too great", Msg.up(0, 0).raw(9, 3, 1, 255));
        isBroken(due, "a length that is an end", Msg.up(0, 0).raw(9, 255));
        isBroken(due, "a type that is an end", Msg.up(0, 0).raw(53, 1, 255));
        isBroken(due, "a number that ends in an end", Msg.up(0, 0).raw(50, 4, 0, 0, 0, 255));
        isWhole(due, "a length that goes up to the end", Msg.up(0, 0).raw(9, 2, 1, 255).end(), -1, 0, 0, 0);
        isWhole(due, "a type that is an end, and an end", Msg.up(0, 0).kind(255).end(), 255, 0, 0, 0);
        isWhole(due, "a number of ends, and an end", Msg.up(0, 0).wanted(-1).end(), -1, -1, 0, 0);
    }

    private static void otherLengths(Due due) {
        due.says("BROKEN with one of those four with another length");
        for (int code : CODES) {
            for (int length = 0; length <= 38; length++) {
                Msg message = Msg.up(0, 0).raw(code, length).raw(new int[length]);
                if (length == (code == 53 ? 1 : 4)) {
                    isWhole(due, "code " + code + " of length " + length, message.end(), code == 53 ? 0 : -1, 0, 0, 0);
                } else {
                    isBroken(due, "code " + code + " of length " + length, message.end());
                }
            }
            isBroken(due, "code " + code + " rightly, then wrongly", Msg.up(0, 0).kind(1).wanted(2).lease(3).server(4)
                    .raw(code, 2, 0, 0).end());
            isBroken(due, "code " + code + " wrongly, then all rightly", Msg.up(0, 0).raw(code, 0)
                    .kind(1).wanted(2).lease(3).server(4).end());
        }
    }

    private static void nothingBytes(Due due) {
        due.says("a byte 0 (nothing)");
        isWhole(due, "before the end", Msg.up(0, 0).raw(0).end(), -1, 0, 0, 0);
        isWhole(due, "40 before the end", Msg.up(0, 0).raw(new int[40]).end(), -1, 0, 0, 0);
        isWhole(due, "around options", Msg.up(0, 0).raw(0).kind(3).raw(0, 0).wanted(4).raw(0).end(), 3, 4, 0, 0);
        isWhole(due, "it has no length", Msg.up(0, 0).raw(0, 53, 1, 9).end(), 9, 0, 0, 0);
    }

    private static void behindTheEnd(Due due) {
        due.says("255 (the end: what follows is not looked at)");
        isWhole(due, "options", Msg.up(0, 0).end().kind(3).wanted(4).lease(5).server(6).end(), -1, 0, 0, 0);
        isWhole(due, "other values of options", Msg.up(0, 0).kind(1).wanted(2).end().kind(3).wanted(4), 1, 2, 0, 0);
        isWhole(due, "broken ones", Msg.up(0, 0).kind(1).end().raw(53, 2), 1, 0, 0, 0);
        isWhole(due, "40 bytes of any kind", Msg.up(0, 0).end().raw(new int[39]).raw(54), -1, 0, 0, 0);
        isWhole(due, "nothing", Msg.up(0, 0).end(), -1, 0, 0, 0);
    }

    private static void severalOfOneCode(Due due) {
        due.says("of several the last one");
        isWhole(due, "types", Msg.up(0, 0).kind(5).kind(6).kind(7).end(), 7, 0, 0, 0);
        isWhole(due, "wanted", Msg.up(0, 0).wanted(5).wanted(6).end(), -1, 6, 0, 0);
        isWhole(due, "leases", Msg.up(0, 0).lease(5).lease(6).end(), -1, 0, 6, 0);
        isWhole(due, "servers", Msg.up(0, 0).server(5).server(6).end(), -1, 0, 0, 6);
        isWhole(due, "a last one of 0", Msg.up(0, 0).kind(5).wanted(5).lease(5).server(5).kind(0).wanted(0).end(),
                0, 0, 5, 5);
        isWhole(due, "a last one of 0", Msg.up(0, 0).lease(5).server(5).lease(0).server(0).end(), -1, 0, 0, 0);
        isWhole(due, "mixed", Msg.up(0, 0).server(1).kind(2).wanted(3).kind(4).server(5).wanted(6).end(), 4, 6, 0, 5);
    }

    private static void otherCodes(Due due) {
        due.says("Codes 53, 50, 51, 54 count; others do not");
        for (int code = 1; code <= 254; code++) {
            if (code != 50 && code != 51 && code != 53 && code != 54) {
                isWhole(due, "code " + code + " of 0 bytes", Msg.up(0, 0).raw(code, 0).end(), -1, 0, 0, 0);
                isWhole(due, "code " + code + " of 1 byte", Msg.up(0, 0).raw(code, 1, 3).end(), -1, 0, 0, 0);
                isWhole(due, "code " + code + " of 4 bytes", Msg.up(0, 0).kind(2).raw(code, 4, 53, 1, 9, 255).end(),
                        2, 0, 0, 0);
            }
        }
        isWhole(due, "of 38 bytes, all there can be", Msg.up(0, 0).raw(7, 38).raw(new int[38]).end(), -1, 0, 0, 0);
    }

    private static void numbers(Due due) {
        due.says("XID (4, highest first, as an int), CIADDR, YIADDR, GIADDR (4 each, likewise)");
        for (int n : new int[] {0, 1, 255, 256, 65536, 1 << 24, 0x01020304, Integer.MAX_VALUE, Integer.MIN_VALUE,
            Integer.MIN_VALUE + 1, -1, -256, 0xFF000000, 0x80000080}) {
            LeaseNet x = tape(Msg.up(0, n).ciaddr(~n).yiaddr(n ^ 0x55).giaddr(n ^ 0x55000000).end().bytes());
            due.is("xid", x.told(2), n);
            due.is("ciaddr", x.told(3), ~n);
            due.is("yiaddr", x.told(4), n ^ 0x55);
            due.is("giaddr", x.told(5), n ^ 0x55000000);
        }
        LeaseNet y = tape(1, 0, 2, 3, 4, 5, 6, 7, 8, 9, 10, 11, 12, 13, 14, 15, 16, 17, 18, 255);
        int[] want = {0x02030405, 0x06070809, 0x0A0B0C0D, 0x0E0F1011, 18};
        for (int i = 0; i < want.length; i++) {
            due.is("each at its place: told(" + (2 + i) + ")", y.told(2 + i), want[i]);
        }
    }

    private static void singleBytes(Due due) {
        due.says("OP, HOPS, CHADDR and TYPE are a byte each");
        for (int b : new int[] {0, 1, 127, 128, 254, 255}) {
            LeaseNet x = tape(Msg.up(b, 0).hops(b ^ 1).kind(b ^ 2).end().bytes());
            due.is("hops", x.told(1), b ^ 1);
            due.is("chaddr", x.told(6), b);
            due.is("type", x.told(7), b ^ 2);
        }
    }

    private static void optionNumbers(Due due) {
        due.says("50, 51, 54 (4 bytes each, numbers likewise: WANTED, LEASE, SERVER)");
        for (int n : new int[] {1, 255, 256, 65536, 1 << 24, 0x01020304, Integer.MAX_VALUE, Integer.MIN_VALUE, -1}) {
            isWhole(due, "numbers of " + n, Msg.up(0, 0).wanted(n).lease(~n).server(n ^ 9).end(), -1, n, ~n, n ^ 9);
        }
    }

    private static void everyByteOfTheTape(Due due) {
        due.says("there would be more than 60: a message may have 60 bytes");
        isWhole(due, "the end as the 60th", Msg.up(0, 0).raw(new int[40]).end(), -1, 0, 0, 0);
        for (int code : CODES) {
            isBroken(due, "a code as the 60th", Msg.up(0, 0).raw(new int[40]).raw(code));
            isBroken(due, "a length as the 60th", Msg.up(0, 0).raw(new int[39]).raw(code, code == 53 ? 1 : 4));
            isBroken(due, "a length of 0 as the 60th", Msg.up(0, 0).raw(new int[39]).raw(code, 0));
            isBroken(due, "half a number as the last", Msg.up(0, 0).raw(new int[37]).raw(code, 4, 0, 255));
            isBroken(due, "all of a number as the last", Msg.up(0, 0).raw(new int[35]).raw(code, 4, 0, 0, 0, 255));
        }
        isBroken(due, "a type as the last", Msg.up(0, 0).raw(new int[38]).raw(53, 1, 255));
        isWhole(due, "a type before the last", Msg.up(0, 0).raw(new int[37]).kind(255).end(), 255, 0, 0, 0);
        isWhole(due, "a number before the last", Msg.up(0, 0).raw(new int[34]).server(-1).end(), -1, 0, 0, -1);
    }

    private static void messagesThatAreMade(Due due) {
        due.says("One that is made has all else 0, and options in this order: 53, 50, 51, 54 (those that are named)");
        LeaseNet x = Play.with(2, 2, 10000);
        x.join(11, 0);
        due.packet("DISCOVER", x, 0, 16, new int[] {1, 0, 0, 0, 0, 1, 0, 0, 0, 0, 0, 0, 0, 0, 0, 0, 0, 0, 11,
            53, 1, 1, 255});
        x.carry(0);
        due.packet("OFFER", x, 0, 11, new int[] {2, 0, 0, 0, 0, 1, 0, 0, 0, 0, 0, 0, 0, 2, 0, 0, 0, 0, 11,
            53, 1, 2, 51, 4, 0, 0, 0x27, 0x10, 54, 4, 0, 0, 0, 1, 255});
        x.carry(0);
        due.packet("REQUEST", x, 0, 16, new int[] {1, 0, 0, 0, 0, 2, 0, 0, 0, 0, 0, 0, 0, 0, 0, 0, 0, 0, 11,
            53, 1, 3, 50, 4, 0, 0, 0, 2, 54, 4, 0, 0, 0, 1, 255});
        x.twice(0);
        due.packet("ACK", x, 1, 11, new int[] {2, 0, 0, 0, 0, 2, 0, 0, 0, 0, 0, 0, 0, 2, 0, 0, 0, 0, 11,
            53, 1, 5, 51, 4, 0, 0, 0x27, 0x10, 54, 4, 0, 0, 0, 1, 255});
        x.pool(0, 3, 3, 8);
        x.carry(0);
        due.packet("NAK", x, 1, 11, new int[] {2, 0, 0, 0, 0, 2, 0, 0, 0, 0, 0, 0, 0, 0, 0, 0, 0, 0, 11,
            53, 1, 6, 54, 4, 0, 0, 0, 1, 255});
        x.carry(0);
        x.leave(11);
        due.packet("RELEASE", x, 1, 16, new int[] {1, 0, 0, 0, 0, 3, 0, 0, 0, 2, 0, 0, 0, 0, 0, 0, 0, 0, 11,
            53, 1, 7, 255});
        Play.discover(1, 1).hops(3).giaddr(255).ciaddr(9).yiaddr(9).bringTo(x, 16);
        x.join(11, 0);
        due.packet("DISCOVER, whatever was made before it", x, x.packets() - 1, 16, Play.discover(11, 4));
        LeaseNet y = Play.inState(Play.REQUESTING);
        y.strange(1023, true);
        Play.ack(0, 2, 1023, 9).bringTo(y, 0);
        due.packet("DECLINE", y, 0, 13, new int[] {1, 0, 0, 0, 0, 3, 0, 0, 0, 0, 0, 0, 0, 0, 0, 0, 0, 0, 0,
            53, 1, 4, 50, 4, 0, 0, 3, 255, 255});
    }
}
