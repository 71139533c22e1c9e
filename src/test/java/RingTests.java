/** Promises 1 to 5 and 13 to 18: rings, nodes, the signal and its moves. */
public final class RingTests {
    private static final CheckHelp CHECK = new CheckHelp("RingTests");

    /** A ring 0 with stations 1, 2, .. up to size. */
    private static RingBridges ringOf(int size) {
        RingBridges x = new RingBridges();
        for (int address = 1; address <= size; address++) {
            CHECK.yes("join(0, " + address + ")", x.join(0, address));
        }
        return x;
    }

    private static void signal(RingBridges x, int signal, int at) {
        CHECK.due("signal(0)", x.signal(0), signal);
        CHECK.due("at(0)", x.at(0), at);
    }

    /** One tick, then the signal of ring 0 and AT. */
    private static void step(RingBridges x, int signal, int at) {
        x.tick(1);
        signal(x, signal, at);
    }

    private static void newObject() {
        CHECK.part("1 a new object");
        RingBridges x = new RingBridges();
        for (int r = 0; r < 3; r++) {
            CHECK.due("signal", x.signal(r), 0);
            CHECK.due("at", x.at(r), -1);
            CHECK.due("monitor", x.monitor(r), 0);
            CHECK.nodes(x, r);
            for (int what = 0; what < 3; what++) {
                CHECK.due("count", x.count(r, what), 0);
            }
        }
        for (int a = 1; a < 10; a++) {
            for (int b = 1; b < 10; b++) {
                CHECK.due("route", x.route(a, b), -1);
            }
        }
        for (int c = 0; c < 4; c++) {
            CHECK.due("connection", x.connection(c, 0), 0);
        }
        CHECK.due("tick(0)", x.tick(0), 0);

        CHECK.part("1 no QUIET without nodes");
        x.tick(10);
        x.join(0, 1);
        x.tick(5);
        signal(x, 0, -1);
        step(x, 3 + 8, 0);
    }

    private static void join() {
        CHECK.part("2 join");
        RingBridges x = ringOf(4);
        CHECK.no("join(-1, 5)", x.join(-1, 5));
        CHECK.no("join(3, 5)", x.join(3, 5));
        CHECK.no("join(0, 0)", x.join(0, 0));
        CHECK.no("join(0, 10)", x.join(0, 10));
        CHECK.no("join(0, 4)", x.join(0, 4));
        CHECK.no("join(2, 1)", x.join(2, 1));
        CHECK.nodes(x, 0, 1, 2, 3, 4);
        CHECK.yes("join(0, 9)", x.join(0, 9));
        CHECK.nodes(x, 0, 1, 2, 3, 4, 9);
        CHECK.no("join(0, 5)", x.join(0, 5));
        CHECK.yes("join(2, 5)", x.join(2, 5));
        CHECK.nodes(x, 2, 5);
        CHECK.nodes(x, 1);

        CHECK.part("2 AT stays a place when a station joins behind the last one");
        RingBridges y = ringOf(2);
        y.tick(7);
        signal(y, 3 + 16, 0);
        y.join(0, 9);
        signal(y, 3 + 16, 0);
        step(y, 3 + 16, 1);
    }

    private static void bridge() {
        CHECK.part("3 bridge");
        RingBridges x = ringOf(3);
        CHECK.no("bridge(-1, 0, 1)", x.bridge(-1, 0, 1));
        CHECK.no("bridge(3, 0, 1)", x.bridge(3, 0, 1));
        CHECK.no("bridge(0, -1, 1)", x.bridge(0, -1, 1));
        CHECK.no("bridge(0, 3, 1)", x.bridge(0, 3, 1));
        CHECK.no("bridge(0, 0, -1)", x.bridge(0, 0, -1));
        CHECK.no("bridge(0, 0, 3)", x.bridge(0, 0, 3));
        CHECK.no("bridge(0, 2, 2)", x.bridge(0, 2, 2));
        CHECK.yes("bridge(2, 1, 0)", x.bridge(2, 1, 0));
        CHECK.no("bridge(2, 1, 2)", x.bridge(2, 1, 2));
        CHECK.yes("bridge(0, 0, 2)", x.bridge(0, 0, 2));
        CHECK.nodes(x, 0, 1, 2, 3, 12, 10);
        CHECK.nodes(x, 1, 12);
        CHECK.nodes(x, 2, 10);
        CHECK.no("bridge(1, 0, 1)", x.bridge(1, 0, 1));
        CHECK.no("bridge(1, 1, 0)", x.bridge(1, 1, 0));
        CHECK.nodes(x, 1, 12);
        CHECK.yes("bridge(1, 1, 2)", x.bridge(1, 1, 2));
        CHECK.nodes(x, 1, 12, 11);
        CHECK.nodes(x, 2, 10, 11);
    }

    private static void leavePlaces() {
        CHECK.part("4 places and AT");
        RingBridges x = ringOf(5);
        x.tick(8);
        signal(x, 3 + 24, 3);
        CHECK.yes("leave(1)", x.leave(1));
        signal(x, 3 + 24, 2);
        CHECK.nodes(x, 0, 2, 3, 4, 5);
        CHECK.yes("leave(4)", x.leave(4));
        signal(x, 3 + 24, 2);
        CHECK.nodes(x, 0, 2, 3, 5);
        CHECK.yes("leave(5)", x.leave(5));
        signal(x, 3 + 24, 0);
        CHECK.nodes(x, 0, 2, 3);

        CHECK.part("4 AT before the node stays");
        x.join(0, 8);
        CHECK.yes("leave(8)", x.leave(8));
        signal(x, 3 + 24, 0);

        CHECK.part("4 a CLAIM of the node that goes");
        CHECK.yes("leave(3)", x.leave(3));
        signal(x, 0, -1);
        x.tick(5);
        signal(x, 0, -1);
        step(x, 3 + 16, 0);

        CHECK.part("4 no such node");
        int[] none = {0, -1, 3, 9, 10, 11, 12, 13};
        for (int address : none) {
            CHECK.no("leave(" + address + ")", x.leave(address));
        }
    }

    private static void leaveBridge() {
        CHECK.part("4 a bridge's ports both go");
        RingBridges x = ringOf(2);
        x.bridge(1, 0, 2);
        x.bridge(0, 0, 1);
        x.join(2, 6);
        x.tick(30);
        CHECK.due("monitor(0)", x.monitor(0), 11);
        CHECK.due("monitor(2)", x.monitor(2), 11);
        CHECK.yes("leave(11)", x.leave(11));
        CHECK.nodes(x, 0, 1, 2, 10);
        CHECK.nodes(x, 1, 10);
        CHECK.nodes(x, 2, 6);
        CHECK.due("monitor(0)", x.monitor(0), 0);
        CHECK.due("monitor(1)", x.monitor(1), 10);
        CHECK.due("monitor(2)", x.monitor(2), 0);
        CHECK.no("leave(11)", x.leave(11));
        CHECK.yes("bridge(1, 1, 2)", x.bridge(1, 1, 2));
        CHECK.nodes(x, 1, 10, 11);
    }

    private static void leaveMonitor() {
        CHECK.part("4 a PURGE of the monitor that goes");
        RingBridges x = ringOf(2);
        x.tick(9);
        signal(x, 4 + 16, 0);
        CHECK.due("monitor(0)", x.monitor(0), 2);
        x.leave(2);
        signal(x, 0, -1);
        CHECK.due("monitor(0)", x.monitor(0), 0);
        x.tick(5);
        signal(x, 0, -1);
        step(x, 3 + 8, 0);

        CHECK.part("4 a PURGE of another node goes on");
        RingBridges y = ringOf(3);
        y.tick(11);
        signal(y, 4 + 24, 0);
        y.leave(1);
        signal(y, 4 + 24, 0);
        step(y, 4 + 24, 1);
        step(y, 1, 0);

        CHECK.part("4 a TOKEN goes on without the monitor");
        y.leave(3);
        CHECK.due("monitor(0)", y.monitor(0), 0);
        step(y, 1, 0);
        y.tick(50);
        signal(y, 1, 0);
        CHECK.due("count(0, 0)", y.count(0, 0), 1);
    }

    private static void leaveQuiet() {
        CHECK.part("4 QUIET stays while nodes are there");
        RingBridges x = ringOf(2);
        x.tick(3);
        x.leave(1);
        x.tick(2);
        signal(x, 0, -1);
        step(x, 3 + 16, 0);

        CHECK.part("4 a ring without nodes has QUIET 0");
        RingBridges y = ringOf(1);
        y.tick(3);
        y.leave(1);
        y.join(0, 1);
        y.tick(5);
        signal(y, 0, -1);
        step(y, 3 + 8, 0);

        CHECK.part("4 a ring without nodes is in SILENCE");
        RingBridges z = ringOf(1);
        z.tick(8);
        signal(z, 1, 0);
        z.leave(1);
        signal(z, 0, -1);
        CHECK.due("monitor(0)", z.monitor(0), 0);
        z.tick(9);
        signal(z, 0, -1);
    }

    private static void leaveFrame() {
        CHECK.part("4 a FRAME goes on when its sender goes; SEEN twice, it is purged");
        RingBridges x = ringOf(3);
        x.tick(14);
        signal(x, 1, 0);
        x.explore(1, 9);
        x.explore(1, 8);
        step(x, 2, 1);
        CHECK.due("node(0, 0, 1)", x.node(0, 0, 1), 1);
        x.leave(1);
        signal(x, 2, 0);
        step(x, 2, 1);
        step(x, 2 + 128, 0);
        step(x, 2 + 128, 1);
        step(x, 4 + 24, 0);
        CHECK.due("count(0, 0)", x.count(0, 0), 2);
        CHECK.due("count(0, 1)", x.count(0, 1), 1);
        CHECK.due("count(0, 2)", x.count(0, 2), 0);
        step(x, 4 + 24, 1);
        step(x, 1, 0);

        CHECK.part("4 what waits in its queue is dropped");
        x.join(0, 1);
        CHECK.due("node(0, 2, 1)", x.node(0, 2, 1), 0);

        CHECK.part("4 a station with the sender's address takes the FRAME off");
        RingBridges y = ringOf(3);
        y.tick(14);
        y.explore(1, 9);
        step(y, 2, 1);
        y.leave(1);
        y.join(0, 1);
        signal(y, 2, 0);
        step(y, 2, 1);
        step(y, 2 + 128, 2);
        step(y, 1, 0);
        CHECK.due("count(0, 2)", y.count(0, 2), 1);
    }

    private static void damage() {
        CHECK.part("5 damage");
        RingBridges x = ringOf(2);
        CHECK.no("damage(-1)", x.damage(-1));
        CHECK.no("damage(3)", x.damage(3));
        CHECK.no("damage(0)", x.damage(0));
        x.tick(3);
        CHECK.no("damage(0)", x.damage(0));
        x.tick(3);
        signal(x, 3 + 8, 1);
        CHECK.yes("damage(0)", x.damage(0));
        signal(x, 0, -1);
        x.tick(5);
        signal(x, 0, -1);
        step(x, 3 + 8, 1);
        x.tick(3);
        signal(x, 4 + 16, 0);

        CHECK.part("5 a PURGE and a TOKEN are SILENCE, and the monitor purges then");
        CHECK.yes("damage(0)", x.damage(0));
        x.tick(5);
        signal(x, 0, -1);
        step(x, 4 + 16, 0);
        CHECK.due("count(0, 0)", x.count(0, 0), 2);
        x.tick(2);
        signal(x, 1, 0);
        CHECK.yes("damage(0)", x.damage(0));
        signal(x, 0, -1);
        x.tick(6);
        signal(x, 4 + 16, 0);
        CHECK.due("count(0, 0)", x.count(0, 0), 3);
        x.tick(2);

        CHECK.part("5 a FRAME is BAD, is not received, and is LOST");
        x.explore(1, 2);
        step(x, 2, 1);
        CHECK.yes("damage(0)", x.damage(0));
        signal(x, 2 + 256, 1);
        CHECK.yes("damage(0)", x.damage(0));
        signal(x, 2 + 256, 1);
        step(x, 2 + 256 + 128, 0);
        CHECK.due("node(0, 1, 1)", x.node(0, 1, 1), 0);
        step(x, 1, 1);
        CHECK.due("count(0, 2)", x.count(0, 2), 1);

        CHECK.part("5 a FRAME that is COPIED already is not LOST");
        x.tick(1);
        x.explore(1, 2);
        x.tick(2);
        signal(x, 2 + 64 + 128 + 512, 0);
        CHECK.yes("damage(0)", x.damage(0));
        signal(x, 2 + 64 + 128 + 256 + 512, 0);
        step(x, 1 + 16, 1);
        CHECK.due("count(0, 2)", x.count(0, 2), 1);
    }

    private static void tick() {
        CHECK.part("13 tick");
        RingBridges x = ringOf(1);
        CHECK.due("tick(0)", x.tick(0), 0);
        CHECK.due("tick(-1)", x.tick(-1), 0);
        CHECK.due("tick(201)", x.tick(201), 0);
        signal(x, 0, -1);
        CHECK.due("tick(5)", x.tick(5), 5);
        CHECK.due("tick(0)", x.tick(0), 5);
        signal(x, 0, -1);
        CHECK.due("tick(200)", x.tick(200), 205);
        signal(x, 1, 0);
        CHECK.due("tick(201)", x.tick(201), 205);
        CHECK.due("tick(1)", x.tick(1), 206);
    }

    private static void claims() {
        CHECK.part("14 to 16 CLAIM, PURGE, TOKEN");
        RingBridges x = new RingBridges();
        int[] addresses = {4, 2, 9, 7};
        for (int address : addresses) {
            x.join(0, address);
        }
        x.tick(5);
        signal(x, 0, -1);
        step(x, 3 + 32, 1);
        step(x, 3 + 32, 2);
        step(x, 3 + 72, 3);
        step(x, 3 + 72, 0);
        step(x, 3 + 72, 1);
        step(x, 3 + 72, 2);
        CHECK.due("monitor(0)", x.monitor(0), 0);
        step(x, 4 + 72, 3);
        CHECK.due("monitor(0)", x.monitor(0), 9);
        CHECK.due("count(0, 0)", x.count(0, 0), 1);
        step(x, 4 + 72, 0);
        step(x, 4 + 72, 1);
        step(x, 4 + 72, 2);
        step(x, 1, 3);
        step(x, 1, 0);

        CHECK.part("14 to 16 no such ring");
        int[] none = {-1, 3};
        for (int r : none) {
            CHECK.due("signal", x.signal(r), -1);
            CHECK.due("at", x.at(r), -1);
            CHECK.due("monitor", x.monitor(r), -1);
            CHECK.due("node", x.node(r, 0, 0), -1);
            CHECK.due("count", x.count(r, 0), -1);
        }
        CHECK.due("monitor(1)", x.monitor(1), 0);

        CHECK.part("16 the CLAIM of a new highest node does not end the monitor");
        x.bridge(0, 0, 1);
        x.damage(0);
        x.tick(6);
        signal(x, 4 + 72, 3);
        CHECK.due("monitor(0)", x.monitor(0), 9);
    }

    /** Station 1 sends with the least priority, 2 asks for more, 3 is the monitor. */
    private static void priorities() {
        CHECK.part("14, 17 RESERVED, stacks and priorities");
        RingBridges x = ringOf(3);
        x.tick(14);
        signal(x, 1, 0);
        x.open(1, 3, 0);
        x.open(2, 3, 1);
        x.offer(0, 10);
        x.offer(1, 20);
        // The bytes are queued at the end of the tick in which the token passes station 1.
        step(x, 1, 1);
        CHECK.due("node(0, 0, 1)", x.node(0, 0, 1), 1);
        CHECK.due("node(0, 1, 1)", x.node(0, 1, 1), 1);
        x.explore(1, 9);
        x.explore(2, 9);
        CHECK.due("node(0, 1, 1)", x.node(0, 1, 1), 2);
        // 2 sends its DATA; 3 copies it, is the monitor, and has READY waiting; 1 has priority 0 waiting.
        step(x, 2, 2);
        step(x, 2 + 64 + 128 + 512, 0);
        step(x, 2 + 64 + 128 + 512, 1);
        CHECK.due("count(0, 1)", x.count(0, 1), 1);
        // 2 takes it off: RESERVED 2 is more than 0.
        step(x, 1 + 16, 2);
        CHECK.due("node(0, 1, 2)", x.node(0, 1, 2), 1);
        // 3 sends READY at priority 2; 1 receives and asks for 0, 2 asks for 1.
        step(x, 2 + 16, 0);
        CHECK.due("node(0, 2, 1)", x.node(0, 2, 1), 0);
        step(x, 2 + 16, 1);
        step(x, 2 + 16 + 32 + 512, 2);
        step(x, 1 + 16 + 32, 0);
        CHECK.due("node(0, 2, 2)", x.node(0, 2, 2), 0);
        // 1 has too little; at 2 the pair (0, 2) becomes (0, 1), the token has priority 1, and 2 sends EXPLORE.
        step(x, 1 + 16 + 32, 1);
        step(x, 2 + 8, 2);
        CHECK.due("node(0, 1, 2)", x.node(0, 1, 2), 1);
        step(x, 2 + 8 + 128, 0);
        step(x, 2 + 8 + 128, 1);
        // 2 takes it off, LOST; RESERVED 0 is not more than 1, so the token keeps 1 and goes once round.
        step(x, 1 + 8, 2);
        CHECK.due("count(0, 2)", x.count(0, 2), 1);
        step(x, 1 + 8 + 128, 0);
        step(x, 1 + 8 + 128, 1);
        // The pair goes at 2: priority 0, not SEEN.
        step(x, 1, 2);
        CHECK.due("node(0, 1, 2)", x.node(0, 1, 2), 0);
        step(x, 1, 0);
        step(x, 2, 1);
        CHECK.due("count(0, 1)", x.count(0, 1), 4);
        CHECK.due("count(0, 0)", x.count(0, 0), 1);
    }

    /** The node whose pair would lower the token is gone, so the monitor sees it twice. */
    private static void seenToken() {
        CHECK.part("14 a TOKEN that is SEEN twice is purged, and stacks are empty then");
        RingBridges x = ringOf(3);
        x.tick(14);
        x.explore(2, 3);
        x.tick(4);
        signal(x, 2 + 64 + 128 + 512, 1);
        step(x, 1 + 16, 2);
        CHECK.due("node(0, 1, 2)", x.node(0, 1, 2), 1);
        x.leave(2);
        signal(x, 1 + 16, 1);
        step(x, 2 + 16, 0);
        step(x, 2 + 16, 1);
        step(x, 1 + 16, 0);
        step(x, 1 + 16, 1);
        step(x, 1 + 16 + 128, 0);
        step(x, 1 + 16 + 128, 1);
        step(x, 4 + 24, 0);
        CHECK.due("count(0, 0)", x.count(0, 0), 2);
        CHECK.due("count(0, 2)", x.count(0, 2), 1);
        step(x, 4 + 24, 1);
        step(x, 1, 0);

        CHECK.part("17 a PURGE empties the stacks that it comes to");
        RingBridges y = ringOf(3);
        y.tick(14);
        y.explore(2, 3);
        y.tick(5);
        signal(y, 1 + 16, 2);
        y.damage(0);
        y.tick(6);
        signal(y, 4 + 24, 0);
        CHECK.due("node(0, 1, 2)", y.node(0, 1, 2), 1);
        step(y, 4 + 24, 1);
        CHECK.due("node(0, 1, 2)", y.node(0, 1, 2), 1);
        step(y, 4 + 24, 2);
        CHECK.due("node(0, 1, 2)", y.node(0, 1, 2), 0);
        step(y, 1, 0);
    }

    private static void nodeAndCount() {
        CHECK.part("17 node");
        RingBridges x = ringOf(2);
        x.explore(2, 5);
        x.explore(2, 6);
        CHECK.due("node(0, 1, 0)", x.node(0, 1, 0), 2);
        CHECK.due("node(0, 1, 1)", x.node(0, 1, 1), 2);
        CHECK.due("node(0, 1, 2)", x.node(0, 1, 2), 0);
        CHECK.due("node(0, 1, 3)", x.node(0, 1, 3), -1);
        CHECK.due("node(0, 1, -1)", x.node(0, 1, -1), -1);
        CHECK.due("node(0, 2, 0)", x.node(0, 2, 0), -1);
        CHECK.due("node(0, -1, 0)", x.node(0, -1, 0), -1);
        CHECK.due("node(1, 0, 0)", x.node(1, 0, 0), -1);
        CHECK.due("node(3, 0, 0)", x.node(3, 0, 0), -1);

        CHECK.part("18 count");
        // The second EXPLORE reserves 1 and goes out when the token comes next.
        x.tick(12);
        CHECK.due("signal(0)", x.signal(0), 1);
        x.tick(1);
        CHECK.due("signal(0)", x.signal(0), 2);
        CHECK.due("count(0, 1)", x.count(0, 1), 1);
        x.tick(30);
        CHECK.due("count(0, 0)", x.count(0, 0), 1);
        CHECK.due("count(0, 1)", x.count(0, 1), 2);
        CHECK.due("count(0, 2)", x.count(0, 2), 2);
        CHECK.due("count(0, 3)", x.count(0, 3), -1);
        CHECK.due("count(0, -1)", x.count(0, -1), -1);
        CHECK.due("count(1, 0)", x.count(1, 0), 0);
    }

    public static void main(String[] args) {
        newObject();
        join();
        bridge();
        leavePlaces();
        leaveBridge();
        leaveMonitor();
        leaveQuiet();
        leaveFrame();
        damage();
        tick();
        claims();
        priorities();
        seenToken();
        nodeAndCount();
        CHECK.end();
    }
}
