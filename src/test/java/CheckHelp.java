/** Counts the answers that are not due, and ends a test. */
final class CheckHelp {
    /** Makes an object and brings it, by the same calls each time, to the state that a test is about. */
    interface Maker {
        RingBridges make();
    }

    /** One call, a boolean answer counting 1 or 0. */
    interface Call {
        int answer(RingBridges x);
    }

    // QUIET shows after 6 ticks, the TIMER after 60, TRIES after 240: what a look does not show is shown later.
    private static final int[] LATER = {0, 1, 2, 3, 4, 5, 6, 7, 9, 12, 20, 33, 59, 60, 61, 90, 130, 200};

    // In milliseconds, far above the few seconds that the longest one takes.
    private static final long LONGEST_TEST = 120_000;

    private final String test;
    private String part = "";
    private int wrong = 0;

    CheckHelp(String test) {
        this.test = test;
        watch(test);
    }

    /** A program with a call that does not end must fail its tests, not hold them up for ever. */
    static void watch(String test) {
        Thread watch = new Thread(() -> {
            try {
                Thread.sleep(LONGEST_TEST);
            } catch (InterruptedException e) {
                return;
            }
            System.out.println(test + ": takes too long, some call does not end");
            Runtime.getRuntime().halt(1);
        });
        watch.setDaemon(true);
        watch.start();
    }

    void part(String name) {
        part = name;
    }

    void due(String call, int got, int want) {
        if (got != want) {
            wrong++;
            System.out.println(test + ", " + part + ": " + call + " answered " + got + ", due is " + want);
        }
    }

    void yes(String call, boolean got) {
        due(call, got ? 1 : 0, 1);
    }

    void no(String call, boolean got) {
        due(call, got ? 1 : 0, 0);
    }

    static int bit(boolean b) {
        return b ? 1 : 0;
    }

    /**
     * The call answers what is due, and its object goes on in every way like a twin that did not get the call: now and
     * after more and more ticks. New twins are made for each, so that no object gets 512 calls.
     */
    void refused(String call, int due, Maker maker, Call refused) {
        for (int ticks : LATER) {
            RingBridges asked = maker.make();
            RingBridges twin = maker.make();
            due(call, refused.answer(asked), due);
            asked.tick(ticks);
            twin.tick(ticks);
            if (!all(asked).equals(all(twin))) {
                wrong++;
                System.out.println(test + ", " + part + ": " + call + " changed something, seen " + ticks
                        + " ticks later");
                return;
            }
        }
    }

    /** What can be looked at, and the bytes that can be taken. */
    private static String all(RingBridges x) {
        StringBuilder all = new StringBuilder(look(x));
        for (int c = 0; c < 4; c++) {
            for (int i = 0; i < 5; i++) {
                all.append(' ').append(x.take(c));
            }
        }
        return all.toString();
    }

    /** What was looked at before must be the same now. */
    void unchanged(String before, RingBridges x) {
        if (!before.equals(look(x))) {
            wrong++;
            System.out.println(test + ", " + part + ": a refused call changed the state");
        }
    }

    /** All that the looking methods answer. */
    static String look(RingBridges x) {
        StringBuilder all = new StringBuilder();
        for (int r = 0; r < 3; r++) {
            all.append(x.signal(r)).append(' ').append(x.at(r)).append(' ').append(x.monitor(r)).append(' ');
            for (int what = 0; what < 3; what++) {
                all.append(x.count(r, what)).append(' ');
                for (int place = 0; place < 5; place++) {
                    all.append(x.node(r, place, what)).append(' ');
                }
            }
        }
        for (int c = 0; c < 4; c++) {
            for (int what = 0; what < 8; what++) {
                all.append(x.connection(c, what)).append(' ');
            }
        }
        for (int a = 1; a < 10; a++) {
            for (int b = 1; b < 10; b++) {
                all.append(x.route(a, b)).append(' ');
            }
        }
        return all.append(x.tick(0)).toString();
    }

    void nodes(RingBridges x, int r, int... addresses) {
        for (int place = 0; place < 5; place++) {
            int want = place < addresses.length ? addresses[place] : -1;
            due("node(" + r + ", " + place + ", 0)", x.node(r, place, 0), want);
        }
    }

    void end() {
        System.out.println(wrong == 0 ? "all answers are as due" : wrong + " answers are not as due");
        if (wrong != 0) {
            System.exit(1);
        }
    }
}
