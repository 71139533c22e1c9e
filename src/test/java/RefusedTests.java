/**
 * "A call that is refused changes nothing", for every ground on which a promise refuses: the first value that is too
 * small, the first one that is too large, what is full, what is empty, what is not there. Each such call is made on one
 * of two twins, which must answer alike from then on.
 */
public final class RefusedTests {
    private static final CheckHelp CHECK = new CheckHelp("RefusedTests");

    private static int bit(boolean b) {
        return CheckHelp.bit(b);
    }

    /** Stations 1 and 2 on ring 0, with QUIET 3. */
    private static RingBridges quiet() {
        RingBridges x = new RingBridges();
        x.join(0, 1);
        x.join(0, 2);
        x.tick(3);
        return x;
    }

    /** Ring 0 full (1, 2, 3 and two ports), routes of 1 to 5 and 8 known, no connections, tokens on all rings. */
    private static RingBridges joined() {
        RingBridges x = new RingBridges();
        for (int address = 1; address <= 3; address++) {
            x.join(0, address);
        }
        x.bridge(0, 0, 1);
        x.bridge(1, 2, 0);
        x.join(1, 5);
        x.join(1, 9);
        x.join(2, 8);
        x.tick(30);
        x.explore(1, 5);
        x.explore(1, 8);
        x.tick(60);
        return x;
    }

    /**
     * Connection 0 (1 to 2) is WAITING, its b PUTTING OFF with a full inbox; 1 (5 to 9) is FAILED with two bytes in the
     * inbox; 2 (1 to 8) has 8 bytes offered, 3 is FREE. The queue of station 3 is full and its stack has a pair.
     */
    private static RingBridges busy() {
        RingBridges x = joined();
        x.open(1, 2, 0);
        for (int i = 0; i < 5; i++) {
            x.offer(0, 10 + i);
        }
        x.open(5, 9, 1);
        x.offer(1, 70);
        x.offer(1, 71);
        x.tick(100);
        x.leave(9);
        x.open(1, 8, 2);
        for (int i = 0; i < 8; i++) {
            x.offer(2, 20 + i);
        }
        for (int i = 0; i < 4; i++) {
            x.explore(3, 9);
        }
        x.tick(8);
        x.explore(3, 9);
        return x;
    }

    private static RingBridges busyWithAllOpen() {
        RingBridges x = busy();
        x.open(2, 1, 3);
        return x;
    }

    private static void states() {
        CHECK.part("the state that refused calls are made in");
        RingBridges x = busy();
        CHECK.nodes(x, 0, 1, 2, 3, 10, 11);
        CHECK.nodes(x, 1, 10, 5);
        CHECK.nodes(x, 2, 11, 8);
        CHECK.due("route(1, 5)", x.route(1, 5), 1);
        CHECK.due("route(1, 8)", x.route(1, 8), 2);
        CHECK.due("connection(0, 0)", x.connection(0, 0), 1);
        CHECK.due("connection(0, 5)", x.connection(0, 5), 4);
        CHECK.yes("WAITING", x.connection(0, 7) >= 100);
        CHECK.due("connection(1, 0)", x.connection(1, 0), 2);
        CHECK.due("connection(1, 5)", x.connection(1, 5), 2);
        CHECK.due("connection(2, 0)", x.connection(2, 0), 1);
        CHECK.due("connection(2, 3)", x.connection(2, 3), 8);
        CHECK.due("connection(3, 0)", x.connection(3, 0), 0);
        CHECK.due("node(0, 2, 1)", x.node(0, 2, 1), 4);
        CHECK.due("node(0, 2, 2)", x.node(0, 2, 2), 1);
    }

    private static void notJoined(String why, CheckHelp.Maker maker, int r, int address) {
        CHECK.part("2 join, " + why);
        CHECK.refused("join(" + r + ", " + address + ")", 0, maker, x -> bit(x.join(r, address)));
    }

    private static void join() {
        notJoined("no ring below 0", RefusedTests::busy, -1, 4);
        notJoined("no ring above 2", RefusedTests::busy, 3, 4);
        notJoined("no address below 1", RefusedTests::busy, 1, 0);
        notJoined("no address above 9", RefusedTests::busy, 1, 10);
        notJoined("a port's address is no station's", RefusedTests::busy, 1, 12);
        notJoined("the station is on this ring", RefusedTests::busy, 1, 5);
        notJoined("the station is on another ring", RefusedTests::busy, 1, 8);
        notJoined("the station is on another ring", RefusedTests::quiet, 2, 1);
        notJoined("the ring has 5 nodes", RefusedTests::busy, 0, 4);
    }

    private static void notBridged(String why, CheckHelp.Maker maker, int k, int r, int s) {
        CHECK.part("3 bridge, " + why);
        CHECK.refused("bridge(" + k + ", " + r + ", " + s + ")", 0, maker, x -> bit(x.bridge(k, r, s)));
    }

    private static void bridge() {
        notBridged("no bridge below 0", RefusedTests::busy, -1, 1, 2);
        notBridged("no bridge above 2", RefusedTests::busy, 3, 1, 2);
        notBridged("it has ports", RefusedTests::busy, 0, 1, 2);
        notBridged("it has ports", RefusedTests::busy, 1, 1, 2);
        notBridged("r below 0", RefusedTests::busy, 2, -1, 2);
        notBridged("r above 2", RefusedTests::busy, 2, 3, 2);
        notBridged("s below 0", RefusedTests::busy, 2, 1, -1);
        notBridged("s above 2", RefusedTests::busy, 2, 1, 3);
        notBridged("both are the same", RefusedTests::busy, 2, 1, 1);
        notBridged("both are the same", RefusedTests::quiet, 2, 0, 0);
        notBridged("ring r has 5 nodes, s has room", RefusedTests::busy, 2, 0, 1);
        notBridged("ring s has 5 nodes, r has room", RefusedTests::busy, 2, 1, 0);
    }

    /** Station 2 is gone, and its REPLY came after that: the route of 1 to 2 is known. */
    private static RingBridges withLateReply() {
        RingBridges x = new RingBridges();
        x.join(0, 1);
        x.join(0, 2);
        x.tick(11);
        x.explore(1, 2);
        x.tick(4);
        x.leave(2);
        x.tick(1);
        CHECK.due("route(1, 2)", x.route(1, 2), 0);
        return x;
    }

    private static void leave() {
        CHECK.part("4 leave, there is none");
        int[] none = {-1, 0, 4, 9, 12, 13};
        for (int address : none) {
            CHECK.refused("leave(" + address + ")", 0, RefusedTests::busy, x -> bit(x.leave(address)));
            CHECK.refused("leave(" + address + ")", 0, RefusedTests::quiet, x -> bit(x.leave(address)));
        }
        CHECK.refused("leave(2)", 0, RefusedTests::withLateReply, x -> bit(x.leave(2)));
    }

    private static void damage() {
        CHECK.part("5 damage, no ring");
        CHECK.refused("damage(-1)", 0, RefusedTests::busy, x -> bit(x.damage(-1)));
        CHECK.refused("damage(3)", 0, RefusedTests::busy, x -> bit(x.damage(3)));
        CHECK.part("5 damage, SILENCE keeps its QUIET");
        CHECK.refused("damage(0)", 0, RefusedTests::quiet, x -> bit(x.damage(0)));
        CHECK.refused("damage(1)", 0, RefusedTests::quiet, x -> bit(x.damage(1)));
        CHECK.refused("damage(2)", 0, RefusedTests::quiet, x -> bit(x.damage(2)));
    }

    private static void notExplored(String why, CheckHelp.Maker maker, int a, int b) {
        CHECK.part("6 explore, " + why);
        CHECK.refused("explore(" + a + ", " + b + ")", 0, maker, x -> bit(x.explore(a, b)));
    }

    private static void explore() {
        notExplored("no station a", RefusedTests::busy, 4, 1);
        notExplored("the station a has left", RefusedTests::busy, 9, 1);
        notExplored("a is 0", RefusedTests::busy, 0, 1);
        notExplored("a is a port", RefusedTests::busy, 10, 1);
        notExplored("b is 0", RefusedTests::busy, 2, 0);
        notExplored("b is 10, a port", RefusedTests::busy, 2, 10);
        notExplored("b is a", RefusedTests::busy, 2, 2);
        notExplored("b is a", RefusedTests::quiet, 1, 1);
        notExplored("4 frames wait at a", RefusedTests::busy, 3, 8);
    }

    private static void forget() {
        CHECK.part("7 forget, not known");
        int[][] pairs = {{5, 1}, {8, 1}, {2, 5}, {1, 9}, {1, 1}, {0, 5}, {10, 5}, {1, 0}, {1, 10}};
        for (int[] pair : pairs) {
            CHECK.refused("forget(" + pair[0] + ", " + pair[1] + ")", 0, RefusedTests::busy,
                    x -> bit(x.forget(pair[0], pair[1])));
        }
    }

    private static void notOpened(String why, CheckHelp.Maker maker, int due, int[] call) {
        CHECK.part("9 open, " + why);
        CHECK.refused("open(" + call[0] + ", " + call[1] + ", " + call[2] + ")", due, maker,
                x -> x.open(call[0], call[1], call[2]));
    }

    /** The route of 1 to 2 is known as a path without bridges, and 2 is on ring 1 now. */
    private static RingBridges withEmptyPath() {
        RingBridges x = new RingBridges();
        x.join(0, 1);
        x.join(0, 2);
        x.tick(11);
        x.explore(1, 2);
        x.tick(4);
        x.leave(2);
        x.join(1, 2);
        x.tick(1);
        CHECK.due("route(1, 2)", x.route(1, 2), 0);
        return x;
    }

    private static void open() {
        notOpened("no station a", RefusedTests::busy, -1, new int[] {4, 1, 0});
        notOpened("no station b", RefusedTests::busy, -1, new int[] {1, 9, 0});
        notOpened("a is 0", RefusedTests::busy, -1, new int[] {0, 1, 0});
        notOpened("b is 0", RefusedTests::busy, -1, new int[] {1, 0, 0});
        notOpened("a is a port", RefusedTests::busy, -1, new int[] {10, 1, 0});
        notOpened("b is a port", RefusedTests::busy, -1, new int[] {1, 11, 0});
        notOpened("both are the same", RefusedTests::busy, -1, new int[] {2, 2, 0});
        notOpened("priority below 0", RefusedTests::busy, -1, new int[] {1, 2, -1});
        notOpened("priority above 3", RefusedTests::busy, -1, new int[] {1, 2, 4});
        notOpened("no route although one backwards", RefusedTests::busy, -2, new int[] {5, 1, 0});
        notOpened("no route", RefusedTests::busy, -2, new int[] {2, 8, 3});
        notOpened("a route without bridges", RefusedTests::withEmptyPath, -2, new int[] {1, 2, 0});
        notOpened("none is FREE", RefusedTests::busyWithAllOpen, -3, new int[] {1, 2, 0});
        notOpened("none is FREE", RefusedTests::busyWithAllOpen, -3, new int[] {1, 8, 3});
        notOpened("none is FREE and no station", RefusedTests::busyWithAllOpen, -1, new int[] {1, 9, 0});
        notOpened("none is FREE and no priority", RefusedTests::busyWithAllOpen, -1, new int[] {1, 2, 4});
        notOpened("none is FREE and no route", RefusedTests::busyWithAllOpen, -2, new int[] {2, 8, 0});
        notOpened("no route and no priority", RefusedTests::busy, -1, new int[] {2, 8, 4});
    }

    private static void close() {
        CHECK.part("10 close, FREE or none such");
        int[] none = {-1, 3, 4};
        for (int c : none) {
            CHECK.refused("close(" + c + ")", 0, RefusedTests::busy, x -> bit(x.close(c)));
        }
    }

    private static void notOffered(String why, int c, int v) {
        CHECK.part("11 offer, " + why);
        CHECK.refused("offer(" + c + ", " + v + ")", 0, RefusedTests::busy, x -> bit(x.offer(c, v)));
    }

    private static void offer() {
        notOffered("no connection below 0", -1, 1);
        notOffered("no connection above 3", 4, 1);
        notOffered("FREE", 3, 1);
        notOffered("FAILED", 1, 1);
        notOffered("a byte below 0", 0, -1);
        notOffered("a byte above 255", 0, 256);
        notOffered("8 were not acknowledged", 2, 1);
    }

    /**
     * Connection 0 (1 to 3): b is PUTTING OFF, its bytes were taken while its queue was full, and that has room again;
     * connection 1 (1 to 2) is FAILED, its byte was taken.
     */
    private static RingBridges emptyInboxes() {
        RingBridges x = new RingBridges();
        for (int address = 1; address <= 3; address++) {
            x.join(0, address);
        }
        x.open(1, 3, 0);
        x.open(1, 2, 0);
        x.offer(1, 70);
        for (int i = 0; i < 5; i++) {
            x.offer(0, 10 + i);
        }
        x.tick(90);
        x.leave(2);
        for (int i = 0; i < 4; i++) {
            x.explore(3, 9);
        }
        for (int i = 0; i < 4; i++) {
            CHECK.due("take(0)", x.take(0), 10 + i);
        }
        CHECK.due("take(1)", x.take(1), 70);
        CHECK.due("node(0, 1, 1)", x.node(0, 1, 1), 4);
        x.tick(2);
        CHECK.due("node(0, 1, 1)", x.node(0, 1, 1), 3);
        CHECK.yes("WAITING", x.connection(0, 7) >= 100);
        CHECK.due("connection(1, 0)", x.connection(1, 0), 2);
        return x;
    }

    private static void take() {
        CHECK.part("12 take, FREE or none such");
        int[] none = {-1, 3, 4};
        for (int c : none) {
            CHECK.refused("take(" + c + ")", -1, RefusedTests::busy, x -> x.take(c));
        }
        CHECK.part("12 take, an inbox that never had a byte");
        CHECK.refused("take(2)", -1, RefusedTests::busy, x -> x.take(2));
        CHECK.part("12 take, an empty inbox of an OPEN one that is PUTTING OFF, and of a FAILED one");
        CHECK.refused("take(0)", -1, RefusedTests::emptyInboxes, x -> x.take(0));
        CHECK.refused("take(1)", -1, RefusedTests::emptyInboxes, x -> x.take(1));
    }

    private static void tick() {
        CHECK.part("13 tick, not 0 .. 200");
        int sofar = busy().tick(0);
        int[] wrongNumbers = {-1, 201, -200, 400, Integer.MIN_VALUE, Integer.MAX_VALUE};
        for (int n : wrongNumbers) {
            CHECK.refused("tick(" + n + ")", sofar, RefusedTests::busy, x -> x.tick(n));
            CHECK.refused("tick(" + n + ")", 3, RefusedTests::quiet, x -> x.tick(n));
            CHECK.refused("tick(" + n + ")", 0, RingBridges::new, x -> x.tick(n));
        }
    }

    private static int looks(RingBridges x) {
        for (int r = -1; r <= 3; r++) {
            x.signal(r);
            x.at(r);
            x.monitor(r);
            for (int what = -1; what <= 3; what++) {
                x.count(r, what);
                x.node(r, what, what);
                x.node(r, 5, what);
            }
        }
        for (int c = -1; c <= 4; c++) {
            for (int what = -1; what <= 8; what++) {
                x.connection(c, what);
            }
        }
        x.route(1, 5);
        x.route(1, 9);
        x.route(0, 10);
        return x.tick(0);
    }

    private static void look() {
        CHECK.part("8, 13 to 19 looking changes nothing, nor does a tick of 0");
        CHECK.refused("looks", busy().tick(0), RefusedTests::busy, RefusedTests::looks);
        CHECK.refused("looks", 3, RefusedTests::quiet, RefusedTests::looks);
    }

    private static void onNewObject() {
        CHECK.part("1 a new object has nothing that could be left, damaged, explored, forgotten, opened, closed or used");
        CHECK.refused("leave(1)", 0, RingBridges::new, x -> bit(x.leave(1)));
        CHECK.refused("leave(10)", 0, RingBridges::new, x -> bit(x.leave(10)));
        CHECK.refused("damage(0)", 0, RingBridges::new, x -> bit(x.damage(0)));
        CHECK.refused("explore(1, 2)", 0, RingBridges::new, x -> bit(x.explore(1, 2)));
        CHECK.refused("forget(1, 2)", 0, RingBridges::new, x -> bit(x.forget(1, 2)));
        CHECK.refused("open(1, 2, 0)", -1, RingBridges::new, x -> x.open(1, 2, 0));
        CHECK.refused("close(0)", 0, RingBridges::new, x -> bit(x.close(0)));
        CHECK.refused("offer(0, 1)", 0, RingBridges::new, x -> bit(x.offer(0, 1)));
        CHECK.refused("take(0)", -1, RingBridges::new, x -> x.take(0));
    }

    public static void main(String[] args) {
        states();
        join();
        bridge();
        leave();
        damage();
        explore();
        forget();
        open();
        close();
        offer();
        take();
        tick();
        look();
        onNewObject();
        CHECK.end();
    }
}
