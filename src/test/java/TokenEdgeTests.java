/**
 * The edges of "TOKEN", "FRAME" and "PURGE": priorities 0 .. 3, what is greater, equal or less, the stack of pairs from
 * empty to three, SEEN once and twice. Ring 0 has the stations 1, 2, 3 at the places 0, 1, 2; 3 is the monitor; after 14
 * ticks the token comes next to 1. A row of what is due after a tick: the signal, AT, and the pairs in the three stacks.
 */
public final class TokenEdgeTests {
    private static final CheckHelp CHECK = new CheckHelp("TokenEdgeTests");
    private static final int SEEN = 128;
    private static final int BAD = 256;
    private static final int COPIED = 512;
    private static final int FIRST_TOKEN = 14;

    private static int token(int priority, int reserved) {
        return 1 + 8 * priority + 32 * reserved;
    }

    private static int frame(int priority, int reserved) {
        return 2 + 8 * priority + 32 * reserved;
    }

    private static RingBridges ring() {
        RingBridges x = new RingBridges();
        for (int address = 1; address <= 3; address++) {
            x.join(0, address);
        }
        return x;
    }

    /** At the end of this tick the station queues a DATA to the next one; it is COPIED there and has no effect. */
    private static void tickAndQueue(RingBridges x, int station, int priority) {
        CHECK.due("open", x.open(station, station % 3 + 1, priority), 0);
        x.offer(0, 1);
        x.tick(1);
        CHECK.yes("close(0)", x.close(0));
    }

    /** Frames {station, own priority} wait, in this order, when the first token comes to station 1. */
    private static RingBridges loaded(int[]... frames) {
        RingBridges x = ring();
        for (int[] f : frames) {
            tickAndQueue(x, f[0], f[1]);
        }
        x.tick(FIRST_TOKEN - frames.length);
        due(x, 1, 0, 0, 0, 0);
        return x;
    }

    private static int[] of(int station, int priority) {
        return new int[] {station, priority};
    }

    private static void due(RingBridges x, int signal, int at, int... depths) {
        int tick = x.tick(0);
        CHECK.due("signal(0) after tick " + tick, x.signal(0), signal);
        CHECK.due("at(0) after tick " + tick, x.at(0), at);
        for (int place = 0; place < 3; place++) {
            CHECK.due("node(0, " + place + ", 2) after tick " + tick, x.node(0, place, 2), depths[place]);
        }
    }

    private static void step(RingBridges x, int signal, int at, int... depths) {
        x.tick(1);
        due(x, signal, at, depths);
    }

    private static void waits(RingBridges x, int first, int second, int third) {
        CHECK.due("node(0, 0, 1)", x.node(0, 0, 1), first);
        CHECK.due("node(0, 1, 1)", x.node(0, 1, 1), second);
        CHECK.due("node(0, 2, 1)", x.node(0, 2, 1), third);
    }

    /** Station 1 sent at priority 0 and 2 asked for 2: the pair (0, 2) is at 1, a token of priority 2 comes to 2. */
    private static void raiseToTwo(RingBridges x) {
        step(x, frame(0, 0), 1, 0, 0, 0);
        step(x, frame(0, 2) + COPIED, 2, 0, 0, 0);
        step(x, frame(0, 2) + COPIED + SEEN, 0, 0, 0, 0);
        step(x, token(2, 0), 1, 1, 0, 0);
    }

    private static void equalAndLess() {
        CHECK.part("TOKEN: a first frame whose priority is the token's is sent, one that is less is not");
        RingBridges x = loaded(of(1, 0), of(2, 2), of(3, 1));
        raiseToTwo(x);
        waits(x, 0, 1, 1);
        // 2 sends with 2 at 2.
        step(x, frame(2, 0), 2, 1, 0, 0);
        waits(x, 0, 0, 1);
        step(x, frame(2, 1) + COPIED + SEEN, 0, 1, 0, 0);
        step(x, frame(2, 1) + COPIED + SEEN, 1, 1, 0, 0);
        step(x, token(2, 1), 2, 1, 0, 0);
        // 3 has 1 and does not send at 2; its 1 is not greater than RESERVED.
        step(x, token(2, 1) + SEEN, 0, 1, 0, 0);
        waits(x, 0, 0, 1);

        CHECK.part("TOKEN: RESERVED 1 is greater than p 0: q and the priority are lowered to it, RESERVED is 0, not SEEN");
        step(x, token(1, 0), 1, 1, 0, 0);
        step(x, token(1, 0), 2, 1, 0, 0);

        CHECK.part("FRAME: the sender does not see its own frame, although it is the monitor");
        step(x, frame(1, 0), 0, 1, 0, 0);
        waits(x, 0, 0, 0);
        step(x, frame(1, 0) + COPIED, 1, 1, 0, 0);
        step(x, frame(1, 0) + COPIED, 2, 1, 0, 0);
        step(x, token(1, 0), 0, 1, 0, 0);

        CHECK.part("TOKEN: RESERVED 0 is not greater than p 0: the pair goes, and the priority is p");
        step(x, token(0, 0), 1, 0, 0, 0);
        CHECK.due("count(0, 0)", x.count(0, 0), 1);
        CHECK.due("count(0, 1)", x.count(0, 1), 3);
        CHECK.due("count(0, 2)", x.count(0, 2), 0);
    }

    private static void pairKept() {
        CHECK.part("FRAME: m 2 is not greater than 2: a TOKEN with priority 2, RESERVED 2, and no pair");
        RingBridges x = loaded(of(1, 0), of(2, 2), of(2, 2));
        raiseToTwo(x);
        step(x, frame(2, 0), 2, 1, 0, 0);
        step(x, frame(2, 0) + COPIED + SEEN, 0, 1, 0, 0);
        step(x, frame(2, 0) + COPIED + SEEN, 1, 1, 0, 0);
        step(x, token(2, 2), 2, 1, 0, 0);
        step(x, token(2, 2) + SEEN, 0, 1, 0, 0);

        CHECK.part("TOKEN: RESERVED 2 is greater than p 0: the pair stays (0, 2), RESERVED is 0, not SEEN");
        step(x, token(2, 0), 1, 1, 0, 0);
        step(x, frame(2, 0), 2, 1, 0, 0);
        CHECK.due("count(0, 0)", x.count(0, 0), 1);
    }

    private static void pairAboveOne() {
        CHECK.part("FRAME: m 2 is greater than 1: the pair (1, 2) comes on the stack of its sender");
        RingBridges x = loaded(of(1, 0), of(2, 1));
        step(x, frame(0, 0), 1, 0, 0, 0);
        step(x, frame(0, 1) + COPIED, 2, 0, 0, 0);
        step(x, frame(0, 1) + COPIED + SEEN, 0, 0, 0, 0);
        step(x, token(1, 0), 1, 1, 0, 0);
        tickAndQueue(x, 3, 2);
        due(x, frame(1, 0), 2, 1, 0, 0);
        step(x, frame(1, 2) + COPIED + SEEN, 0, 1, 0, 0);
        step(x, frame(1, 2) + COPIED + SEEN, 1, 1, 0, 0);
        step(x, token(2, 0), 2, 1, 1, 0);
        x.explore(1, 9);
        step(x, frame(2, 0), 0, 1, 1, 0);
        step(x, frame(2, 1) + COPIED, 1, 1, 1, 0);
        step(x, frame(2, 1) + COPIED, 2, 1, 1, 0);
        step(x, token(2, 1), 0, 1, 1, 0);

        CHECK.part("TOKEN: a pair with another second number stays as it is");
        step(x, token(2, 1), 1, 1, 1, 0);

        CHECK.part("TOKEN: RESERVED 1 is not greater than p 1: the pair goes, the priority is 1, RESERVED stays 1");
        step(x, token(1, 1), 2, 1, 0, 0);
        step(x, token(1, 1) + SEEN, 0, 1, 0, 0);

        CHECK.part("TOKEN: RESERVED 1 is greater than p 0: 1 keeps its pair and sends at 1");
        step(x, frame(1, 0), 1, 1, 0, 0);
    }

    private static void monitorWithPairs() {
        CHECK.part("TOKEN: at the monitor a pair of another priority stays, and the token is SEEN");
        RingBridges x = loaded(of(3, 0));
        step(x, token(0, 0), 1, 0, 0, 0);
        step(x, token(0, 0), 2, 0, 0, 0);
        x.explore(1, 9);
        step(x, frame(0, 0), 0, 0, 0, 0);
        step(x, frame(0, 1) + COPIED, 1, 0, 0, 0);
        step(x, frame(0, 1) + COPIED, 2, 0, 0, 0);
        step(x, token(1, 0), 0, 0, 0, 1);
        tickAndQueue(x, 2, 2);
        due(x, frame(1, 0), 1, 0, 0, 1);
        step(x, frame(1, 2), 2, 0, 0, 1);
        step(x, frame(1, 2) + SEEN, 0, 0, 0, 1);
        step(x, token(2, 0), 1, 1, 0, 1);
        step(x, frame(2, 0), 2, 1, 0, 1);
        step(x, frame(2, 0) + COPIED + SEEN, 0, 1, 0, 1);
        step(x, frame(2, 0) + COPIED + SEEN, 1, 1, 0, 1);
        step(x, token(2, 0), 2, 1, 0, 1);
        step(x, token(2, 0) + SEEN, 0, 1, 0, 1);

        CHECK.part("TOKEN: a pair (1, 2) with RESERVED 0 goes; the priority is 1, not SEEN");
        step(x, token(1, 0), 1, 0, 0, 1);
        step(x, token(1, 0), 2, 0, 0, 1);

        CHECK.part("TOKEN: the monitor's own pair goes, and the token is not SEEN");
        step(x, token(0, 0), 0, 0, 0, 0);
        CHECK.due("count(0, 0)", x.count(0, 0), 1);
        CHECK.due("count(0, 2)", x.count(0, 2), 1);
    }

    private static void threePairs() {
        CHECK.part("FRAME: a stack of one, two and three pairs");
        RingBridges x = loaded(of(1, 0), of(1, 1), of(1, 2), of(1, 3), of(2, 1));
        waits(x, 4, 1, 0);
        step(x, frame(0, 0), 1, 0, 0, 0);
        step(x, frame(0, 1) + COPIED, 2, 0, 0, 0);
        step(x, frame(0, 1) + COPIED + SEEN, 0, 0, 0, 0);
        step(x, token(1, 0), 1, 1, 0, 0);
        step(x, frame(1, 0), 2, 1, 0, 0);
        step(x, frame(1, 0) + COPIED + SEEN, 0, 1, 0, 0);
        step(x, frame(1, 1) + COPIED + SEEN, 1, 1, 0, 0);
        step(x, token(1, 1), 2, 1, 0, 0);
        step(x, token(1, 1) + SEEN, 0, 1, 0, 0);
        // The pair (0, 1) stays, and 1 sends at 1; its own next frame has 2.
        step(x, frame(1, 0), 1, 1, 0, 0);
        step(x, frame(1, 0) + COPIED, 2, 1, 0, 0);
        tickAndQueue(x, 2, 2);
        due(x, frame(1, 0) + COPIED + SEEN, 0, 1, 0, 0);
        step(x, token(2, 0), 1, 2, 0, 0);
        step(x, frame(2, 0), 2, 2, 0, 0);
        step(x, frame(2, 0) + COPIED + SEEN, 0, 2, 0, 0);
        step(x, frame(2, 2) + COPIED + SEEN, 1, 2, 0, 0);
        step(x, token(2, 2), 2, 2, 0, 0);
        step(x, token(2, 2) + SEEN, 0, 2, 0, 0);
        // The pair (1, 2) stays, and 1 sends at 2; its own next frame has 3.
        step(x, frame(2, 0), 1, 2, 0, 0);
        step(x, frame(2, 0) + COPIED, 2, 2, 0, 0);
        step(x, frame(2, 0) + COPIED + SEEN, 0, 2, 0, 0);
        step(x, token(3, 0), 1, 3, 0, 0);
        step(x, token(3, 0), 2, 3, 0, 0);
        step(x, token(3, 0) + SEEN, 0, 3, 0, 0);

        CHECK.part("TOKEN: the pairs go from the top, (2, 3), (1, 2), (0, 1), and the stack is empty");
        step(x, frame(2, 0), 1, 2, 0, 0);
        step(x, frame(2, 0) + COPIED, 2, 2, 0, 0);
        step(x, frame(2, 0) + COPIED + SEEN, 0, 2, 0, 0);
        step(x, token(2, 0), 1, 2, 0, 0);
        step(x, token(2, 0), 2, 2, 0, 0);
        step(x, token(2, 0) + SEEN, 0, 2, 0, 0);
        step(x, token(1, 0), 1, 1, 0, 0);
        step(x, token(1, 0), 2, 1, 0, 0);
        step(x, token(1, 0) + SEEN, 0, 1, 0, 0);
        step(x, token(0, 0), 1, 0, 0, 0);
        CHECK.due("count(0, 0)", x.count(0, 0), 1);
        CHECK.due("count(0, 1)", x.count(0, 1), 6);
    }

    private static void threePairsPurged() {
        CHECK.part("PURGE: a stack of three pairs is empty when it has come to the node");
        RingBridges x = loaded(of(1, 0), of(1, 1), of(1, 2), of(1, 3), of(2, 1));
        x.tick(11);
        tickAndQueue(x, 2, 2);
        x.tick(10);
        due(x, token(3, 0), 1, 3, 0, 0);
        x.damage(0);
        x.tick(5);
        due(x, 0, -1, 3, 0, 0);
        step(x, 4 + 24, 0, 3, 0, 0);
        step(x, 4 + 24, 1, 0, 0, 0);
        step(x, 4 + 24, 2, 0, 0, 0);
        step(x, token(0, 0), 0, 0, 0, 0);
        step(x, frame(0, 0), 1, 0, 0, 0);
    }

    private static void greaterOfTwo() {
        CHECK.part("FRAME: m is RESERVED 2 when the own first frame has 1");
        RingBridges x = loaded(of(1, 0), of(1, 1), of(2, 2));
        raiseToTwo(x);
        waits(x, 1, 1, 0);

        CHECK.part("FRAME: m is the own first frame's 2 when RESERVED is 1");
        RingBridges y = loaded(of(1, 0), of(1, 2), of(2, 1));
        step(y, frame(0, 0), 1, 0, 0, 0);
        step(y, frame(0, 1) + COPIED, 2, 0, 0, 0);
        step(y, frame(0, 1) + COPIED + SEEN, 0, 0, 0, 0);
        step(y, token(2, 0), 1, 1, 0, 0);

        CHECK.part("TOKEN: a frame with 1 that may not be sent at 2 makes RESERVED 1");
        step(y, token(2, 1), 2, 1, 0, 0);
        step(y, token(2, 1) + SEEN, 0, 1, 0, 0);

        CHECK.part("TOKEN: with its pair lowered to 1 the node sends its frame of 2 at priority 1, RESERVED 0, not SEEN");
        step(y, frame(1, 0), 1, 1, 0, 0);

        CHECK.part("FRAME: m is 0 when nothing is RESERVED and nothing waits: no pair");
        RingBridges z = loaded(of(1, 3));
        step(z, frame(0, 0), 1, 0, 0, 0);
        step(z, frame(0, 0) + COPIED, 2, 0, 0, 0);
        step(z, frame(0, 0) + COPIED + SEEN, 0, 0, 0, 0);
        step(z, token(0, 0), 1, 0, 0, 0);
    }

    private static void firstFrameOnly() {
        CHECK.part("FRAME: only the first frame that waits counts, not a greater one behind it");
        RingBridges x = loaded(of(1, 0), of(2, 1), of(2, 3));
        step(x, frame(0, 0), 1, 0, 0, 0);
        step(x, frame(0, 1) + COPIED, 2, 0, 0, 0);
        step(x, frame(0, 1) + COPIED + SEEN, 0, 0, 0, 0);
        step(x, token(1, 0), 1, 1, 0, 0);
        step(x, frame(1, 0), 2, 1, 0, 0);
        step(x, frame(1, 0) + COPIED + SEEN, 0, 1, 0, 0);
        step(x, frame(1, 0) + COPIED + SEEN, 1, 1, 0, 0);
        step(x, token(3, 0), 2, 1, 1, 0);

        CHECK.part("FRAME: RESERVED does not become less at a node with a lesser frame");
        RingBridges y = loaded(of(1, 0), of(2, 2), of(3, 1));
        y.tick(2);
        due(y, frame(0, 2) + COPIED, 2, 0, 0, 0);
        step(y, frame(0, 2) + COPIED + SEEN, 0, 0, 0, 0);

        CHECK.part("TOKEN: RESERVED does not become less at a node with a lesser frame");
        RingBridges z = loaded(of(1, 0), of(2, 2), of(2, 1), of(3, 0));
        raiseToTwo(z);
        z.tick(3);
        step(z, token(2, 1), 2, 1, 0, 0);
        step(z, token(2, 1) + SEEN, 0, 1, 0, 0);
    }

    private static void greatestPriority() {
        CHECK.part("14 priority 3 and RESERVED 3");
        RingBridges x = loaded(of(1, 0), of(2, 3), of(3, 3));
        step(x, frame(0, 0), 1, 0, 0, 0);
        step(x, frame(0, 3) + COPIED, 2, 0, 0, 0);
        step(x, frame(0, 3) + COPIED + SEEN, 0, 0, 0, 0);
        step(x, token(3, 0), 1, 1, 0, 0);
        step(x, frame(3, 0), 2, 1, 0, 0);
        step(x, frame(3, 3) + COPIED + SEEN, 0, 1, 0, 0);
        CHECK.yes("damage(0)", x.damage(0));
        due(x, 2 + 24 + 96 + 128 + 256 + 512, 0, 1, 0, 0);
        step(x, frame(3, 3) + COPIED + SEEN + BAD, 1, 1, 0, 0);
        step(x, token(3, 3), 2, 1, 0, 0);
        step(x, frame(3, 0), 0, 1, 0, 0);
        CHECK.due("count(0, 2)", x.count(0, 2), 0);

        CHECK.part("14 a frame of priority 0 is sent at 0, and a frame of 3 at 0");
        RingBridges y = loaded(of(1, 0), of(2, 3));
        step(y, 2, 1, 0, 0, 0);
        RingBridges z = loaded(of(1, 3));
        step(z, 2, 1, 0, 0, 0);
    }

    private static void badFrame() {
        CHECK.part("FRAME: a BAD one is SEEN, and RESERVED at it, but it is not received");
        RingBridges x = loaded(of(1, 0), of(2, 1), of(3, 2));
        step(x, frame(0, 0), 1, 0, 0, 0);
        x.damage(0);
        step(x, frame(0, 1) + BAD, 2, 0, 0, 0);
        step(x, frame(0, 2) + BAD + SEEN, 0, 0, 0, 0);

        CHECK.part("FRAME: the TOKEN after a BAD one is neither BAD nor SEEN nor COPIED, and the next frame is good");
        step(x, token(2, 0), 1, 1, 0, 0);
        CHECK.due("count(0, 2)", x.count(0, 2), 1);
        step(x, token(2, 1), 2, 1, 0, 0);
        step(x, frame(2, 0), 0, 1, 0, 0);
        step(x, frame(2, 0) + COPIED, 1, 1, 0, 0);
    }

    private static void priorityZero() {
        CHECK.part("TOKEN: one of priority 0 is never SEEN");
        RingBridges x = loaded();
        for (int tick = 0; tick < 60; tick++) {
            step(x, 1, (tick + 1) % 3, 0, 0, 0);
        }
        CHECK.due("count(0, 0)", x.count(0, 0), 1);

        CHECK.part("TOKEN: one of priority 1 that is SEEN is purged when it comes to the monitor again");
        RingBridges y = loaded(of(1, 0), of(2, 1));
        y.tick(4);
        due(y, token(1, 0), 1, 1, 0, 0);
        // Without station 1 the pair (0, 1) is gone, and nobody lowers the token; 2 sends its frame at 1.
        y.leave(1);
        y.tick(4);
        CHECK.due("signal(0)", y.signal(0), token(1, 0) + SEEN);
        CHECK.due("at(0)", y.at(0), 0);
        y.tick(1);
        CHECK.due("signal(0)", y.signal(0), token(1, 0) + SEEN);
        CHECK.due("count(0, 0)", y.count(0, 0), 1);
        // "and that is all": what waits at the monitor is not sent with the token that it purges.
        y.explore(3, 9);
        int sent = y.count(0, 1);
        y.tick(1);
        CHECK.due("signal(0)", y.signal(0), 4 + 24);
        CHECK.due("at(0)", y.at(0), 0);
        CHECK.due("count(0, 0)", y.count(0, 0), 2);
        CHECK.due("count(0, 1)", y.count(0, 1), sent);
        CHECK.due("node(0, 1, 1)", y.node(0, 1, 1), 1);
        y.tick(2);
        CHECK.due("signal(0)", y.signal(0), 1);
        CHECK.due("at(0)", y.at(0), 0);
    }

    private static void frameSeenTwice() {
        CHECK.part("FRAME: one that is SEEN is purged when it comes to the monitor again, before it is received");
        RingBridges x = loaded(of(1, 0));
        step(x, frame(0, 0), 1, 0, 0, 0);
        x.leave(1);
        // DATA to 2 is COPIED; nobody takes it off.
        x.tick(1);
        CHECK.due("signal(0)", x.signal(0), frame(0, 0) + COPIED);
        x.tick(1);
        CHECK.due("signal(0)", x.signal(0), frame(0, 0) + COPIED + SEEN);
        x.tick(1);
        CHECK.due("signal(0)", x.signal(0), frame(0, 0) + COPIED + SEEN);
        CHECK.due("count(0, 0)", x.count(0, 0), 1);
        x.tick(1);
        CHECK.due("signal(0)", x.signal(0), 4 + 24);
        CHECK.due("at(0)", x.at(0), 0);
        CHECK.due("count(0, 0)", x.count(0, 0), 2);
        CHECK.due("count(0, 2)", x.count(0, 2), 0);

        CHECK.part("FRAME: the monitor that purges does not receive it, nor reserve at it");
        RingBridges y = ring();
        y.tick(FIRST_TOKEN);
        y.explore(1, 3);
        step(y, frame(0, 0), 1, 0, 0, 0);
        y.leave(1);
        y.tick(2);
        CHECK.due("signal(0)", y.signal(0), frame(0, 2) + COPIED + SEEN);
        CHECK.due("node(0, 1, 1)", y.node(0, 1, 1), 1);
        y.tick(2);
        CHECK.due("signal(0)", y.signal(0), 4 + 24);
        CHECK.due("node(0, 1, 1)", y.node(0, 1, 1), 1);
    }

    public static void main(String[] args) {
        equalAndLess();
        pairKept();
        pairAboveOne();
        monitorWithPairs();
        threePairs();
        threePairsPurged();
        greaterOfTwo();
        firstFrameOnly();
        greatestPriority();
        badFrame();
        priorityZero();
        frameSeenTwice();
        CHECK.end();
    }
}
