/**
 * The edges of "FRAMES", EXPLORE and REPLY, and of promises 3, 4 and 6 to 9: routes of no, one and two bridges, a port
 * whose other port's queue is full or has room for one, a station whose queue is, addresses 1 and 9.
 */
public final class RouteEdgeTests {
    private static final CheckHelp CHECK = new CheckHelp("RouteEdgeTests");

    private static void route(RingBridges x, int a, int b, int want) {
        CHECK.due("route(" + a + ", " + b + ")", x.route(a, b), want);
    }

    private static void count(RingBridges x, int r, int what, int want) {
        CHECK.due("count(" + r + ", " + what + ")", x.count(r, what), want);
    }

    private static void waits(RingBridges x, int r, int place, int want) {
        CHECK.due("node(" + r + ", " + place + ", 1)", x.node(r, place, 1), want);
    }

    /** Ring 0 with station 1, ring 1 with station 9, bridge k between them; both have tokens after 11 ticks. */
    private static RingBridges two(int k) {
        RingBridges x = new RingBridges();
        x.join(0, 1);
        x.join(1, 9);
        CHECK.yes("bridge", x.bridge(k, 0, 1));
        x.tick(11);
        CHECK.due("signal(0)", x.signal(0), 1);
        CHECK.due("signal(1)", x.signal(1), 1);
        return x;
    }

    /** Ticks during which ring 1 never has a token for longer than the tick in which it is damaged. */
    private static void ticksWithoutRingOne(RingBridges x, int ticks) {
        for (int i = 0; i < ticks; i++) {
            x.damage(1);
            x.tick(1);
        }
        x.damage(1);
    }

    private static void bounds() {
        CHECK.part("6 addresses 1 and 9 are explored and known; 8 the same for 0 and 10 is not");
        RingBridges x = two(0);
        CHECK.yes("explore(1, 9)", x.explore(1, 9));
        CHECK.yes("explore(9, 1)", x.explore(9, 1));
        CHECK.no("explore(1, 10)", x.explore(1, 10));
        CHECK.no("explore(1, 0)", x.explore(1, 0));
        x.tick(60);
        route(x, 1, 9, 1);
        route(x, 9, 1, 1);
        route(x, 1, 1, -1);
        route(x, 9, 9, -1);
        int[] none = {-1, 0, 10};
        for (int address : none) {
            route(x, 1, address, -1);
            route(x, 9, address, -1);
            route(x, address, 1, -1);
            route(x, address, 9, -1);
            CHECK.no("forget", x.forget(1, address));
            CHECK.no("forget", x.forget(address, 9));
        }

        CHECK.part("7 one route is forgotten, the one backwards is not, and it is forgotten once");
        CHECK.yes("forget(1, 9)", x.forget(1, 9));
        route(x, 1, 9, -1);
        route(x, 9, 1, 1);
        CHECK.no("forget(1, 9)", x.forget(1, 9));
        CHECK.yes("forget(9, 1)", x.forget(9, 1));
        route(x, 9, 1, -1);

        CHECK.part("7 a path without bridges is a known route");
        RingBridges y = new RingBridges();
        y.join(2, 1);
        y.join(2, 9);
        y.tick(11);
        CHECK.no("forget(9, 1)", y.forget(9, 1));
        y.explore(9, 1);
        y.tick(20);
        route(y, 9, 1, 0);
        CHECK.yes("forget(9, 1)", y.forget(9, 1));
        route(y, 9, 1, -1);
        CHECK.no("forget(9, 1)", y.forget(9, 1));
    }

    private static void codes() {
        CHECK.part("8 bridge 0 is 1, bridge 2 is 3");
        for (int k = 0; k <= 2; k++) {
            RingBridges x = two(k);
            x.explore(1, 9);
            x.tick(30);
            route(x, 1, 9, k + 1);
        }
    }

    /** Station 1 on ring 0, 5 on ring 2, bridges 0 and 1 by way of ring 1; connection 0 goes from 1 to 5. */
    private static RingBridges rowWithConnection() {
        RingBridges x = new RingBridges();
        x.join(0, 1);
        x.join(2, 5);
        x.bridge(0, 0, 1);
        x.bridge(1, 1, 2);
        x.tick(30);
        x.explore(1, 5);
        x.tick(60);
        route(x, 1, 5, 1 + 8);
        CHECK.due("open(1, 5, 0)", x.open(1, 5, 0), 0);
        return x;
    }

    private static void firstBridge() {
        CHECK.part("a route of two bridges is crossed in order, the answers go backwards");
        RingBridges x = rowWithConnection();
        x.offer(0, 33);
        x.tick(60);
        CHECK.due("take(0)", x.take(0), 33);
        CHECK.due("connection(0, 1)", x.connection(0, 1), 1);

        CHECK.part("a frame with a route is received by a port of its first bridge, not of its second one");
        RingBridges y = rowWithConnection();
        y.leave(11);
        CHECK.yes("bridge(1, 0, 2)", y.bridge(1, 0, 2));
        y.tick(20);
        int sent = y.count(1, 1);
        int lost = y.count(1, 2);
        int beyond = y.count(2, 1);
        y.offer(0, 33);
        y.tick(30);
        count(y, 1, 1, sent + 1);
        count(y, 1, 2, lost + 1);
        count(y, 2, 1, beyond);
        CHECK.due("connection(0, 4)", y.connection(0, 4), 0);

        CHECK.part("a frame whose first bridge has no port on the ring is LOST there");
        RingBridges z = rowWithConnection();
        z.leave(10);
        z.tick(20);
        lost = z.count(0, 2);
        sent = z.count(1, 1);
        z.offer(0, 33);
        z.tick(20);
        count(z, 0, 2, lost + 1);
        count(z, 1, 1, sent);
    }

    private static void stationWithRoute() {
        CHECK.part("a frame with a route is not received by the station TO, although it is on that ring");
        RingBridges x = two(0);
        x.explore(1, 9);
        // EXPLORE is sent on ring 0, then copied by the port and sent on ring 1.
        x.tick(2);
        CHECK.due("signal(1)", x.signal(1), 2);
        x.leave(1);
        x.join(1, 1);
        CHECK.nodes(x, 1, 9, 10, 1);
        int lost = x.count(0, 2);
        x.tick(30);
        // REPLY crosses bridge 0 first, and nobody receives it on ring 0.
        route(x, 1, 9, -1);
        count(x, 0, 2, lost + 1);

        CHECK.part("a frame without a route is received by nobody but TO");
        RingBridges y = two(0);
        y.join(0, 2);
        y.open(1, 2, 0);
        y.offer(0, 5);
        y.tick(20);
        count(y, 1, 1, 0);
        CHECK.due("take(0)", y.take(0), 5);
    }

    private static void portForExplore() {
        CHECK.part("EXPLORE: copied when 3 wait at the other port, not copied and LOST when 4 wait");
        RingBridges x = two(0);
        for (int i = 0; i < 4; i++) {
            x.explore(1, 2);
        }
        for (int copies = 1; copies <= 4; copies++) {
            ticksWithoutRingOne(x, copies == 1 ? 2 : 3);
            waits(x, 1, 1, copies);
            CHECK.due("signal(0)", x.signal(0), 2 + 128 + 512);
            ticksWithoutRingOne(x, 1);
        }
        count(x, 0, 1, 4);
        count(x, 0, 2, 0);
        x.explore(1, 2);
        ticksWithoutRingOne(x, 8);
        waits(x, 1, 1, 4);
        count(x, 0, 1, 5);
        count(x, 0, 2, 1);
    }

    private static void portForData() {
        CHECK.part("DATA with a route: copied when 3 wait at the other port, not copied and LOST when 4 wait");
        RingBridges x = two(1);
        x.explore(1, 9);
        x.tick(30);
        route(x, 1, 9, 2);
        CHECK.due("open(1, 9, 1)", x.open(1, 9, 1), 0);
        int sent = x.count(0, 1);
        for (int i = 0; i < 3; i++) {
            x.offer(0, i);
        }
        for (int i = 0; i < 40 && x.node(1, 1, 1) < 3; i++) {
            ticksWithoutRingOne(x, 1);
        }
        waits(x, 1, 1, 3);
        count(x, 0, 2, 0);
        CHECK.due("open(1, 9, 1)", x.open(1, 9, 1), 1);
        x.offer(1, 77);
        x.offer(1, 78);
        for (int i = 0; i < 20 && x.node(1, 1, 1) < 4; i++) {
            ticksWithoutRingOne(x, 1);
        }
        waits(x, 1, 1, 4);
        ticksWithoutRingOne(x, 1);
        count(x, 0, 2, 0);
        ticksWithoutRingOne(x, 4);
        waits(x, 1, 1, 4);
        count(x, 0, 1, sent + 5);
        count(x, 0, 2, 1);
        x.tick(40);
        for (int i = 0; i < 3; i++) {
            CHECK.due("take(0)", x.take(0), i);
        }
        CHECK.due("take(1)", x.take(1), 77);
        CHECK.due("take(1)", x.take(1), -1);
        x.tick(60);
        CHECK.due("take(1)", x.take(1), 78);
    }

    private static void replyQueue() {
        for (int waiting = 0; waiting <= 4; waiting++) {
            CHECK.part("EXPLORE at TO with " + waiting + " frames waiting there: it is COPIED, and REPLY queued or dropped");
            RingBridges x = new RingBridges();
            x.join(0, 1);
            x.join(0, 2);
            x.tick(11);
            x.explore(1, 2);
            for (int i = 0; i < waiting; i++) {
                CHECK.yes("explore(2, 9)", x.explore(2, 9));
            }
            x.tick(2);
            int reserved = waiting == 0 ? 64 : 32;
            CHECK.due("signal(0)", x.signal(0), 2 + reserved + 128 + 512);
            waits(x, 0, 1, Math.min(4, waiting + 1));
            x.tick(60);
            route(x, 1, 2, waiting == 4 ? -1 : 0);
        }
    }

    private static void rings() {
        CHECK.part("EXPLORE: a bridge back to a ring where it has been does not get it, also over another bridge");
        RingBridges x = two(0);
        CHECK.yes("bridge(1, 0, 1)", x.bridge(1, 0, 1));
        x.tick(20);
        x.explore(1, 5);
        x.tick(60);
        // Once on ring 0; each bridge hands it to ring 1, and none of these comes back.
        count(x, 0, 1, 1);
        count(x, 0, 2, 0);
        count(x, 1, 1, 2);
        count(x, 1, 2, 2);

        CHECK.part("EXPLORE: after two bridges it stays where it is");
        RingBridges y = new RingBridges();
        y.join(0, 1);
        y.bridge(0, 0, 1);
        y.bridge(1, 1, 2);
        y.bridge(2, 2, 0);
        y.join(2, 4);
        y.tick(40);
        y.explore(1, 4);
        y.tick(100);
        // Ring 2 gets it over bridges 0 and 1 and over bridge 2; both replies come, and the first one stays known.
        route(y, 1, 4, 1 + 8);
        count(y, 0, 1, 3);
        y.forget(1, 4);
        y.leave(11);
        y.explore(1, 4);
        y.tick(100);
        route(y, 1, 4, 3);
        CHECK.yes("bridge(1, 1, 2)", y.bridge(1, 1, 2));
        y.explore(1, 4);
        y.tick(100);
        route(y, 1, 4, 3);
    }

    private static void startRing() {
        for (int r = 0; r <= 2; r++) {
            for (int s = 0; s <= 2; s++) {
                if (r != s) {
                    CHECK.part("EXPLORE: from ring " + r + " over two bridges to ring " + s + ", and not back");
                    RingBridges x = new RingBridges();
                    x.join(r, 1);
                    x.bridge(0, r, s);
                    x.bridge(1, s, r);
                    x.tick(30);
                    x.explore(1, 5);
                    x.tick(60);
                    count(x, r, 1, 1);
                    count(x, s, 1, 2);
                    count(x, s, 2, 2);
                }
            }
        }
    }

    private static void otherPorts() {
        CHECK.part("all other nodes do nothing with a frame: a port on the way of DATA without a route");
        RingBridges x = new RingBridges();
        x.join(0, 1);
        x.bridge(0, 0, 1);
        x.join(0, 2);
        x.tick(30);
        x.open(1, 2, 0);
        x.offer(0, 5);
        for (int i = 0; i < 9 && x.count(0, 1) == 0; i++) {
            x.tick(1);
        }
        CHECK.due("signal(0)", x.signal(0), 2);
        x.tick(1);
        CHECK.due("signal(0)", x.signal(0), 2 + 128);
        x.tick(1);
        CHECK.due("signal(0)", x.signal(0), 2 + 64 + 128 + 512);

        CHECK.part("all other nodes do nothing with a frame: a port of another bridge than the route's");
        RingBridges y = two(0);
        y.explore(1, 9);
        y.tick(30);
        CHECK.due("open(1, 9, 0)", y.open(1, 9, 0), 0);
        y.leave(10);
        y.bridge(1, 0, 1);
        y.offer(0, 5);
        int lost = y.count(0, 2);
        int beyond = y.count(1, 1);
        y.tick(30);
        count(y, 0, 2, lost + 1);
        count(y, 1, 1, beyond);
    }

    private static void newExplore() {
        CHECK.part("EXPLORE has no route and an empty path, whatever was queued at its station before");
        RingBridges x = two(0);
        x.join(1, 7);
        for (int i = 0; i < 5; i++) {
            x.explore(1, 9);
            x.tick(40);
        }
        // 9 has sent five REPLYs with a path and a route of bridge 0.
        CHECK.yes("explore(9, 7)", x.explore(9, 7));
        x.tick(40);
        route(x, 9, 7, 0);
        route(x, 1, 9, 1);
        for (int i = 0; i < 4; i++) {
            x.forget(9, 7);
            x.explore(9, 7);
            x.tick(40);
            route(x, 9, 7, 0);
        }

        CHECK.part("EXPLORE after DATA over a bridge");
        CHECK.due("open(1, 9, 2)", x.open(1, 9, 2), 0);
        for (int i = 0; i < 4; i++) {
            x.offer(0, i);
        }
        x.tick(80);
        CHECK.due("connection(0, 1)", x.connection(0, 1), 4);
        x.forget(1, 9);
        x.explore(1, 9);
        x.tick(40);
        route(x, 1, 9, 1);
    }

    /** Ring r is in SILENCE, one frame waits at the port at place 1; the station sends, and the port reserves. */
    private static void reserves(RingBridges x, int r, int station, int priority) {
        waits(x, r, 1, 1);
        CHECK.due("signal(" + r + ")", x.signal(r), 0);
        x.explore(station, 5);
        for (int i = 0; i < 20 && x.signal(r) != 2; i++) {
            x.tick(1);
        }
        x.tick(1);
        CHECK.due("signal(" + r + ")", x.signal(r), 2 + 32 * priority + 128 + 512);
    }

    private static RingBridges withRoute() {
        RingBridges x = two(0);
        x.explore(1, 9);
        x.tick(30);
        route(x, 1, 9, 1);
        return x;
    }

    private static void silentUntilWaiting(RingBridges x, int r) {
        for (int i = 0; i < 30 && x.node(r, 1, 1) == 0; i++) {
            x.damage(r);
            x.tick(1);
        }
        x.damage(r);
    }

    private static void ownPriority() {
        CHECK.part("EXPLORE keeps its own priority 1 over a bridge");
        RingBridges x = withRoute();
        x.explore(1, 9);
        silentUntilWaiting(x, 1);
        reserves(x, 1, 9, 1);

        for (int priority = 0; priority <= 3; priority++) {
            CHECK.part("DATA keeps its own priority " + priority + " over a bridge");
            RingBridges y = withRoute();
            CHECK.due("open", y.open(1, 9, priority), 0);
            y.offer(0, 5);
            silentUntilWaiting(y, 1);
            reserves(y, 1, 9, priority);
        }

        CHECK.part("READY has the own priority 2 over a bridge, whatever its connection has");
        RingBridges z = withRoute();
        CHECK.due("open", z.open(1, 9, 3), 0);
        z.offer(0, 5);
        for (int i = 0; i < 30 && z.connection(0, 4) == 0; i++) {
            z.tick(1);
        }
        silentUntilWaiting(z, 0);
        reserves(z, 0, 1, 2);

        CHECK.part("REPLY has the own priority 2 over a bridge");
        RingBridges w = two(0);
        w.explore(1, 9);
        for (int i = 0; i < 30 && w.node(1, 0, 1) == 0; i++) {
            w.tick(1);
        }
        waits(w, 1, 0, 1);
        silentUntilWaiting(w, 0);
        reserves(w, 0, 1, 2);
    }

    private static void dropped() {
        CHECK.part("4 what waits at both ports of a bridge that goes is dropped");
        RingBridges x = two(0);
        x.explore(1, 9);
        ticksWithoutRingOne(x, 2);
        waits(x, 1, 1, 1);
        x.leave(10);
        x.bridge(0, 1, 0);
        CHECK.nodes(x, 0, 1, 10);
        CHECK.nodes(x, 1, 9, 10);
        waits(x, 0, 1, 0);
        waits(x, 1, 1, 0);
        x.tick(60);
        count(x, 1, 1, 0);
        route(x, 1, 9, -1);

        CHECK.part("4 a station that goes takes its routes along, from it and to it, and no others");
        RingBridges y = two(2);
        y.join(0, 2);
        y.tick(20);
        y.explore(1, 9);
        y.explore(2, 9);
        y.explore(1, 2);
        y.explore(9, 2);
        y.tick(100);
        route(y, 1, 9, 3);
        route(y, 2, 9, 3);
        route(y, 1, 2, 0);
        route(y, 9, 2, 3);
        y.leave(2);
        route(y, 1, 9, 3);
        route(y, 2, 9, -1);
        route(y, 1, 2, -1);
        route(y, 9, 2, -1);
        y.leave(12);
        route(y, 1, 9, 3);
        y.leave(9);
        route(y, 1, 9, -1);
    }

    private static void openEdges() {
        CHECK.part("9 priorities 0 and 3 are good, -1 and 4 are not, on one ring and over a bridge");
        RingBridges x = two(0);
        x.join(0, 3);
        CHECK.due("open(1, 3, -1)", x.open(1, 3, -1), -1);
        CHECK.due("open(1, 3, 4)", x.open(1, 3, 4), -1);
        CHECK.due("open(1, 3, 0)", x.open(1, 3, 0), 0);
        CHECK.due("open(1, 3, 3)", x.open(1, 3, 3), 1);
        CHECK.due("open(1, 9, 3)", x.open(1, 9, 3), -2);
        x.explore(1, 9);
        x.tick(30);
        CHECK.due("open(9, 1, 3)", x.open(9, 1, 3), -2);
        CHECK.due("open(1, 9, 4)", x.open(1, 9, 4), -1);
        CHECK.due("open(1, 9, 3)", x.open(1, 9, 3), 2);
        x.forget(1, 9);
        CHECK.due("open(1, 9, 3)", x.open(1, 9, 3), -2);
        CHECK.due("open(3, 1, 0)", x.open(3, 1, 0), 3);
        CHECK.due("open(3, 1, 0)", x.open(3, 1, 0), -3);
        CHECK.due("open(1, 9, 3)", x.open(1, 9, 3), -2);

        CHECK.part("9 the least FREE number: 3 alone, 0 before 3");
        x.close(3);
        CHECK.due("open(3, 1, 0)", x.open(3, 1, 0), 3);
        x.close(3);
        x.close(0);
        CHECK.due("open(3, 1, 0)", x.open(3, 1, 0), 0);
        CHECK.due("open(3, 1, 0)", x.open(3, 1, 0), 3);
    }

    public static void main(String[] args) {
        bounds();
        codes();
        firstBridge();
        stationWithRoute();
        portForExplore();
        portForData();
        replyQueue();
        rings();
        startRing();
        otherPorts();
        newExplore();
        ownPriority();
        dropped();
        openEdges();
        CHECK.end();
    }
}
