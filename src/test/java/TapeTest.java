/** Promises 15, 16 and 17: type, told, inject. */
final class TapeTest {
    public static void main(String[] args) {
        Due due = new Due("TapeTest");
        type(due);
        told(due);
        numbers(due);
        options(due);
        broken(due);
        inject(due);
        due.end();
    }

    private static void type(Due due) {
        LeaseNet x = new LeaseNet();
        due.is("type(1, 0)", x.type(1, 0), false);
        due.is("type(1, 9)", x.type(1, 9), false);
        due.is("type(1, -1)", x.type(1, -1), false);
        due.is("type(1, MAX)", x.type(1, Integer.MAX_VALUE), false);
        due.is("type(1, MIN)", x.type(1, Integer.MIN_VALUE), false);
        due.is("8 bytes", x.type(0xF1E2D3C4B5A69788L, 8), true);
        due.is("3 bytes of more", x.type(0x7766554433221100L, 3), true);
        due.is("1 byte", x.type(-1L, 1), true);
        for (int i = 0; i < 6; i++) {
            due.is("8 bytes", x.type(0, 8), true);
        }
        due.is("beyond 60", x.type(0, 1), false);
        x.inject(3);
        int[] want = new int[60];
        int[] first = {0x88, 0x97, 0xA6, 0xB5, 0xC4, 0xD3, 0xE2, 0xF1, 0x00, 0x11, 0x22, 0xFF};
        System.arraycopy(first, 0, want, 0, first.length);
        due.packet("the lowest first", x, 0, 3, want);
        for (int i = 0; i < 7; i++) {
            x.type(0, 8);
        }
        due.is("56 and 5", x.type(0, 5), false);
        due.is("56 and 4", x.type(-1, 4), true);
        due.is("60 and 1", x.type(0, 1), false);
        x.inject(16);
        due.is("60 bytes", x.packet(1, -2), 60);
        due.is("the last", x.packet(1, 59), 255);
        due.is("before them", x.packet(1, 55), 0);
    }

    private static void told(Due due) {
        LeaseNet x = new LeaseNet();
        for (int w : new int[] {-1, 11, Integer.MIN_VALUE, Integer.MAX_VALUE}) {
            due.fails("told(" + w + ")", IndexOutOfBoundsException.class, () -> x.told(w));
        }
        Msg.up(255, 0x81020304).hops(254).ciaddr(-1).yiaddr(0x7FFFFFFF).giaddr(0x00010203).kind(200)
                .wanted(0x80000000).lease(0x01000000).server(-2).end().typeOn(x);
        long[] want = {1, 254, 0x81020304, -1, 0x7FFFFFFF, 0x00010203, 255, 200, 0x80000000, 0x01000000, -2};
        for (int round = 0; round < 2; round++) {
            for (int w = 0; w <= 10; w++) {
                due.is("told(" + w + ")", x.told(w), want[w]);
            }
        }
        x.inject(0);
        due.is("told leaves the tape as it is", x.packet(0, -2), 19 + 3 + 18 + 1);
        due.fails("the tape is empty", IllegalArgumentException.class, () -> x.told(0));
        Msg.downTo(3, 0).raw(255).typeOn(x);
        due.is("op 2", x.told(0), 2);
        due.is("without type", x.told(7), -1);
        due.is("without wanted", x.told(8), 0);
        due.is("without lease", x.told(9), 0);
        due.is("without server", x.told(10), 0);
    }

    private static void numbers(Due due) {
        LeaseNet x = new LeaseNet();
        Msg.typeOn(x, 2, 3, 4, 5, 6, 7, 8, 9, 10, 11, 12, 13, 14, 15, 16, 17, 18, 19, 20, 255);
        long[] want = {2, 3, 0x04050607, 0x08090A0B, 0x0C0D0E0F, 0x10111213, 20, -1, 0, 0, 0};
        for (int w = 0; w <= 10; w++) {
            due.is("told(" + w + ")", x.told(w), want[w]);
        }
    }

    private static void options(Due due) {
        LeaseNet x = new LeaseNet();
        Msg.up(0, 0).raw(0, 0).kind(3).raw(1, 0, 254, 3, 53, 255, 0).wanted(5).kind(4).wanted(6)
                .raw(0).end().raw(53, 1, 9, 50).typeOn(x);
        due.is("the last type before the end", x.told(7), 4);
        due.is("the last wanted", x.told(8), 6);
        due.is("no lease", x.told(9), 0);
        due.is("no server", x.told(10), 0);
    }

    private static void isBroken(Due due, String why, int... bytes) {
        LeaseNet x = new LeaseNet();
        Msg.typeOn(x, bytes);
        due.fails(why, IllegalArgumentException.class, () -> x.told(0));
        due.fails(why + ", but first", IndexOutOfBoundsException.class, () -> x.told(11));
    }

    private static void broken(Due due) {
        isBroken(due, "one byte", 1);
        int[] short18 = new int[18];
        short18[0] = 1;
        isBroken(due, "18 bytes", short18);
        short18[17] = 255;
        isBroken(due, "18 bytes, the last of them an end", short18);
        isBroken(due, "19 bytes without end", Msg.up(255, 0).bytes());
        isBroken(due, "without end", Msg.up(0, 0).kind(1).raw(0, 0).bytes());
        isBroken(due, "op 0", Msg.up(0, 0).op(0).end().bytes());
        isBroken(due, "op 3", Msg.up(0, 0).op(3).end().bytes());
        isBroken(due, "op 255", Msg.up(0, 0).op(255).end().bytes());
        isBroken(due, "a code without a length", Msg.up(0, 0).raw(53).bytes());
        isBroken(due, "an end that a length covers", Msg.up(0, 0).raw(9, 1, 255).bytes());
        isBroken(due, "a length beyond the bytes", Msg.up(0, 0).raw(9, 3, 255, 255).bytes());
        isBroken(due, "a length of 255", Msg.up(0, 0).raw(9, 255, 255).bytes());
        for (int code : new int[] {50, 51, 53, 54}) {
            for (int length : new int[] {0, 1, 2, 3, 4, 5}) {
                if (length != (code == 53 ? 1 : 4)) {
                    Msg m = Msg.up(0, 0).raw(code, length).raw(new int[length]).end();
                    isBroken(due, "code " + code + " of length " + length, m.bytes());
                }
            }
        }
        for (int code : new int[] {50, 51, 53, 54}) {
            isBroken(due, "a code as the 60th byte", Msg.up(0, 0).raw(new int[40]).raw(code).bytes());
            isBroken(due, "a length as the 60th byte", Msg.up(0, 0).raw(new int[39]).raw(code, 1).bytes());
            isBroken(due, "a length of 0 there", Msg.up(0, 0).raw(new int[39]).raw(code, 0).bytes());
            isBroken(due, "a length of 4 there", Msg.up(0, 0).raw(new int[39]).raw(code, 4).bytes());
            isBroken(due, "3 of 4 bytes", Msg.up(0, 0).raw(new int[36]).raw(code, 4, 1, 2, 255).bytes());
            isBroken(due, "an option and no end", Msg.up(0, 0).raw(new int[35]).raw(code, 4, 1, 2, 3, 255).bytes());
        }
        LeaseNet last = new LeaseNet();
        Msg.up(0, 0).raw(new int[34]).wanted(9).end().typeOn(last);
        due.is("an end as the 60th byte", last.told(8), 9);
        LeaseNet x = new LeaseNet();
        Msg.up(0, 0).raw(52, 1, 9, 55, 0).end().raw(53, 2).typeOn(x);
        due.is("other codes may have any length, and so what is behind the end", x.told(7), -1);
    }

    private static void inject(Due due) {
        LeaseNet x = new LeaseNet();
        x.type(5, 1);
        for (int p : new int[] {-1, 12, 17, Integer.MIN_VALUE, Integer.MAX_VALUE}) {
            due.fails("inject(" + p + ")", IllegalArgumentException.class, () -> x.inject(p));
        }
        due.is("nothing was sent", x.packets(), 0);
        int sent = 0;
        for (int p = 0; p <= 16; p++) {
            if (p != 12) {
                x.type(p + 6 * 256, 2);
                x.inject(p);
                due.packet("inject(" + p + ")", x, sent, p, sent == 0 ? new int[] {5, p, 6} : new int[] {p, 6});
                due.fails("the tape is taken", IllegalArgumentException.class, () -> x.inject(0));
                sent++;
            }
        }
        due.is("packets()", x.packets(), 16);
    }
}
