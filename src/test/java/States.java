import java.util.function.Supplier;

/** Objects in three states, from which edges are looked at: nothing there yet, some, and full. */
enum States implements Supplier<WhoKnows> {
    NOTHING, SOME, FULL;

    @Override
    public WhoKnows get() {
        WhoKnows x = new WhoKnows();
        if (this == SOME) {
            some(x);
        } else if (this == FULL) {
            full(x);
        }
        return x;
    }

    /**
     * 3 worlds, world 1 is real, 6 acts; sayings 0 to 4, of which 2 and 4 have after; events 0 to 2
     * of 1, 2 and 3 cases; models 0 and 1; 3 people; sheets of 6 bytes, 4 shorts, 0 ints and
     * nothing; 5 bytes on the tape; the latest fault is 2.
     */
    private static void some(WhoKnows x) {
        x.world(3);
        x.world(1);
        x.keep();
        x.world(2);
        x.blind(0x0021);
        x.sees(3, 0, 0, false, false);
        x.real(1);
        x.keep();
        String[] texts = {"p", "know a q", "after 0 p", "common ab or p q", "after 1 after 2 q"};
        for (int k = 0; k < texts.length; k++) {
            Check.tell(x, k, texts[k]);
        }
        x.word(0, 0, 0, 0);
        x.word(1, 1, 1, 2);
        x.event(2, 3);
        x.when(2, 0, WhoKnows.NONE, 4, 1);
        x.when(2, 1, 0, 0, 2);
        x.hears(2, 0, 0, 1, true);
        x.hears(2, 1, 2, 2, true);
        x.happens(2, 1);
        x.people(3);
        x.call(0, 2);
        x.sheet(0, 0, 6);
        x.write(0, 5, 9);
        x.sheet(1, 1, 4);
        x.write(1, 0, 15);
        x.write(1, 3, 16);
        x.sheet(2, 2, 0);
        Check.tell(x, 5, "know x");
        Check.feed(x, "know ");
    }

    /**
     * 24 worlds, the last is real, 8 acts; 8 sayings, of which 6 and 7 have after; event 0 of one
     * case, 1 to 3 of four; 4 models; 4 people; sheets of 48 bytes, shorts, ints and bytes; 160
     * bytes on the tape, with 32 tokens; no fault.
     */
    private static void full(WhoKnows x) {
        for (int w = 0; w < 24; w++) {
            x.world(w % 16);
            if (w % 8 == 5) {
                x.keep();
            }
        }
        x.blind(0x8421);
        x.sees(2, 23, 0, true, true);
        x.real(23);
        x.keep();
        String[] texts = {
            "p", "q", "not r", "know a p", "whether b q", "common abcd q", "after 3 s", "after 0 after 1 r"};
        for (int k = 0; k < texts.length; k++) {
            Check.tell(x, k, texts[k]);
        }
        x.word(0, 0, 0, 0);
        for (int e = 1; e < 4; e++) {
            x.event(e, 4);
            x.when(e, 0, e, 1, 2);
            x.when(e, 3, WhoKnows.NONE, 8, 4);
            x.hears(e, e, 0, 3, true);
            x.hears(e, 0, 3, 3, true);
            x.happens(e, 3);
        }
        x.people(4);
        x.call(0, 3);
        for (int k = 0; k < 4; k++) {
            x.sheet(k, k % 3, 48);
            x.write(k, 0, 15);
            x.write(k, 47, 1 + k);
        }
        fillTape(x);
    }

    /** 160 bytes that tell a saying of 32 tokens. */
    static void fillTape(WhoKnows x) {
        for (int i = 0; i < 15; i++) {
            x.feed(Check.eightBytes("not not ", 0));
        }
        for (int i = 0; i < 4; i++) {
            x.feed(Check.eightBytes("", 0));
        }
        x.feed(Check.eightBytes("   not p", 0));
    }
}
