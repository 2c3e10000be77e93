/** Compares answers with those that are due, and keeps count of the wrong ones. */
final class Due {
    interface Call {
        void go();
    }

    private final String test;
    private String sentence = "";
    private int sentences = 0;
    private int checks = 0;
    private int wrong = 0;

    Due(String test) {
        this.test = test;
    }

    /** What is compared from here on is due by these words of the document. */
    void says(String words) {
        sentence = " (" + words + ")";
        sentences++;
    }

    void is(String what, long got, long want) {
        checks++;
        if (got != want) {
            wrong(what + " answered " + got + ", due is " + want);
        }
    }

    private void wrong(String what) {
        wrong++;
        System.out.println(test + sentence + ": " + what);
    }

    void is(String what, boolean got, boolean want) {
        is(what, got ? 1 : 0, want ? 1 : 0);
    }

    /** The exact class counts, not one that it extends; null when the call is due to throw nothing. */
    void fails(String what, Class<? extends RuntimeException> want, Call call) {
        checks++;
        Class<?> got = null;
        try {
            call.go();
        } catch (RuntimeException e) {
            got = e.getClass();
        }
        if (got != want) {
            wrong(what + " threw " + got + ", due is " + want);
        }
    }

    /** state, address, end, used address, last xid, try, subnet of a client. */
    void client(String what, LeaseNet x, int client, int... want) {
        for (int i = 0; i < want.length; i++) {
            is(what + ": client(" + client + ", " + i + ")", x.client(client, i), want[i]);
        }
    }

    /** state, client, time of a record. */
    void record(String what, LeaseNet x, int address, int... want) {
        for (int i = 0; i < want.length; i++) {
            is(what + ": record(" + address + ", " + i + ")", x.record(address, i), want[i]);
        }
    }

    void packet(String what, LeaseNet x, int k, int place, Msg want) {
        packet(what, x, k, place, want.bytes());
    }

    void packet(String what, LeaseNet x, int k, int place, int[] want) {
        if (k >= x.packets()) {
            is(what + ": packets()", x.packets(), k + 1);
            return;
        }
        is(what + ": place", x.packet(k, -1), place);
        int length = x.packet(k, -2);
        is(what + ": length", length, want.length);
        for (int i = 0; i < want.length && i < length; i++) {
            is(what + ": byte " + i, x.packet(k, i), want[i]);
        }
    }

    void end() {
        String parts = sentences == 0 ? "" : sentences + " sentences, ";
        System.out.println(test + ": " + parts + checks + " checks, " + wrong + " wrong");
        if (wrong != 0) {
            System.exit(1);
        }
    }
}
