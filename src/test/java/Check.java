/** What the tests share: due answers, and texts fed to the tape. */
final class Check {
    private static int wrong = 0;
    private static int asked = 0;

    private Check() {
    }

    static void due(String what, long got, long want) {
        asked++;
        if (got != want) {
            wrong++;
            System.out.println(what + " answered " + got + ", due is " + want);
        }
    }

    static void feed(WhoKnows x, String text) {
        for (int i = 0; i < text.length(); i += 8) {
            x.feed(eightBytes(text, i));
        }
        int surplus = (8 - text.length() % 8) % 8;
        x.end(x.count(7) - surplus);
    }

    static long eightBytes(String text, int from) {
        long v = 0;
        for (int i = from; i < from + 8; i++) {
            v = v << 8 | (i < text.length() ? text.charAt(i) : ' ');
        }
        return v;
    }

    static int tell(WhoKnows x, int k, String text) {
        feed(x, text);
        return x.say(k);
    }

    /** A new object with a world for each of these facts. */
    static WhoKnows worlds(int... facts) {
        WhoKnows x = new WhoKnows();
        for (int f : facts) {
            x.world(f);
        }
        return x;
    }

    static void end() {
        System.out.println(asked + " answers asked, " + wrong + " wrong");
        if (wrong != 0) {
            System.exit(1);
        }
    }
}
