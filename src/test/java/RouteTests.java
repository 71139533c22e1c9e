/** Promises 6 to 8: EXPLORE, REPLY, bridges that carry frames, and the routes that are known. */
public final class RouteTests {
    private static final CheckHelp CHECK = new CheckHelp("RouteTests");

    private static void route(RingBridges x, int a, int b, int want) {
        CHECK.due("route(" + a + ", " + b + ")", x.route(a, b), want);
    }

    private static void counts(RingBridges x, int r, int sent, int lost) {
        CHECK.due("count(" + r + ", 1)", x.count(r, 1), sent);
        CHECK.due("count(" + r + ", 2)", x.count(r, 2), lost);
    }

    private static void exploreOnOneRing() {
        CHECK.part("6 on one ring");
        RingBridges x = new RingBridges();
        x.join(0, 1);
        x.join(0, 2);
        x.tick(11);
        CHECK.yes("explore(1, 2)", x.explore(1, 2));
        CHECK.due("node(0, 0, 1)", x.node(0, 0, 1), 1);
        x.tick(1);
        CHECK.due("signal(0)", x.signal(0), 2);
        x.tick(1);
        CHECK.due("signal(0)", x.signal(0), 2 + 64 + 128 + 512);
        CHECK.due("node(0, 1, 1)", x.node(0, 1, 1), 1);
        x.tick(2);
        CHECK.due("signal(0)", x.signal(0), 2 + 16);
        route(x, 1, 2, -1);
        x.tick(1);
        CHECK.due("signal(0)", x.signal(0), 2 + 16 + 512);
        route(x, 1, 2, 0);
        route(x, 2, 1, -1);
        x.tick(1);
        counts(x, 0, 2, 0);

        CHECK.part("7 forget");
        CHECK.no("forget(2, 1)", x.forget(2, 1));
        CHECK.no("forget(1, 0)", x.forget(1, 0));
        CHECK.no("forget(10, 2)", x.forget(10, 2));
        CHECK.yes("forget(1, 2)", x.forget(1, 2));
        route(x, 1, 2, -1);
        CHECK.no("forget(1, 2)", x.forget(1, 2));
        x.explore(1, 2);
        x.tick(20);
        route(x, 1, 2, 0);
    }

    private static void exploreRefused() {
        CHECK.part("6 refused");
        RingBridges x = new RingBridges();
        x.join(0, 1);
        x.join(1, 9);
        x.bridge(0, 0, 1);
        String before = CheckHelp.look(x);
        CHECK.no("explore(2, 1)", x.explore(2, 1));
        CHECK.no("explore(0, 1)", x.explore(0, 1));
        CHECK.no("explore(10, 1)", x.explore(10, 1));
        CHECK.no("explore(1, 0)", x.explore(1, 0));
        CHECK.no("explore(1, 10)", x.explore(1, 10));
        CHECK.no("explore(1, 1)", x.explore(1, 1));
        CHECK.unchanged(before, x);
        CHECK.yes("explore(1, 9)", x.explore(1, 9));
        CHECK.yes("explore(1, 5)", x.explore(1, 5));
        CHECK.yes("explore(1, 9)", x.explore(1, 9));
        CHECK.yes("explore(1, 9)", x.explore(1, 9));
        CHECK.due("node(0, 0, 1)", x.node(0, 0, 1), 4);
        CHECK.no("explore(1, 9)", x.explore(1, 9));
        CHECK.due("node(0, 0, 1)", x.node(0, 0, 1), 4);
        CHECK.yes("explore(9, 1)", x.explore(9, 1));
    }

    /** Ring 0 with station 1, ring 1, ring 2 with station 8, in a row by two bridges. */
    private static RingBridges row(int near, int far) {
        RingBridges x = new RingBridges();
        x.join(0, 1);
        x.join(1, 4);
        x.join(2, 8);
        CHECK.yes("bridge", x.bridge(near, 0, 1));
        CHECK.yes("bridge", x.bridge(far, 2, 1));
        x.tick(30);
        return x;
    }

    private static void codes() {
        CHECK.part("8 the route over one bridge and over two");
        for (int near = 0; near < 3; near++) {
            for (int far = 0; far < 3; far++) {
                if (near != far) {
                    RingBridges x = row(near, far);
                    x.explore(1, 8);
                    x.explore(1, 4);
                    x.explore(8, 4);
                    x.tick(200);
                    route(x, 1, 8, near + 1 + 4 * (far + 1));
                    route(x, 1, 4, near + 1);
                    route(x, 8, 4, far + 1);
                    route(x, 8, 1, -1);
                    route(x, 4, 1, -1);
                    x.explore(8, 1);
                    x.tick(100);
                    route(x, 8, 1, far + 1 + 4 * (near + 1));
                }
            }
        }
        RingBridges x = row(0, 1);
        int[] none = {-1, 0, 10, 11};
        for (int a : none) {
            route(x, a, 8, -1);
            route(x, 1, a, -1);
        }
    }

    private static void spread() {
        CHECK.part("6 EXPLORE goes over no ring twice");
        RingBridges x = new RingBridges();
        x.join(0, 1);
        x.bridge(0, 0, 1);
        x.bridge(1, 1, 2);
        x.bridge(2, 2, 0);
        x.tick(30);
        x.explore(1, 9);
        x.tick(100);
        counts(x, 0, 1, 0);
        counts(x, 1, 2, 1);
        counts(x, 2, 2, 1);

        CHECK.part("6 EXPLORE goes over bridges although TO is on the ring");
        RingBridges y = new RingBridges();
        y.join(0, 1);
        y.join(0, 2);
        y.bridge(2, 1, 0);
        y.tick(30);
        y.explore(1, 2);
        y.tick(40);
        route(y, 1, 2, 0);
        counts(y, 0, 2, 0);
        counts(y, 1, 1, 1);

        CHECK.part("6 without ports and without TO it is LOST");
        RingBridges z = new RingBridges();
        z.join(2, 1);
        z.join(2, 3);
        z.tick(11);
        z.explore(3, 1);
        z.explore(3, 2);
        z.tick(40);
        counts(z, 2, 3, 1);
    }

    private static void firstPath() {
        CHECK.part("6 the first path stays known");
        RingBridges x = new RingBridges();
        x.join(0, 1);
        x.bridge(1, 0, 1);
        x.bridge(0, 0, 1);
        x.join(1, 2);
        x.tick(30);
        x.explore(1, 2);
        x.tick(60);
        // Both bridges carry it, and both replies come back; bridge 1 is the first one behind station 1.
        counts(x, 1, 4, 0);
        route(x, 1, 2, 2);
        CHECK.yes("leave(11)", x.leave(11));
        route(x, 1, 2, 2);
        x.explore(1, 2);
        x.tick(60);
        route(x, 1, 2, 2);
        x.forget(1, 2);
        x.explore(1, 2);
        x.tick(60);
        route(x, 1, 2, 1);
    }

    private static void stationGone() {
        CHECK.part("4 routes from and to a station that goes");
        RingBridges x = row(0, 1);
        x.explore(1, 8);
        x.explore(1, 4);
        x.explore(8, 1);
        x.explore(4, 8);
        x.tick(200);
        route(x, 1, 8, 9);
        route(x, 8, 1, 6);
        route(x, 1, 4, 1);
        route(x, 4, 8, 2);
        CHECK.yes("leave(8)", x.leave(8));
        route(x, 1, 8, -1);
        route(x, 8, 1, -1);
        route(x, 4, 8, -1);
        route(x, 1, 4, 1);
        CHECK.yes("leave(10)", x.leave(10));
        route(x, 1, 4, 1);
    }

    private static void fullPort() {
        CHECK.part("6 a port whose other port has a full queue does not copy");
        RingBridges x = new RingBridges();
        x.join(0, 1);
        x.join(1, 5);
        x.bridge(0, 0, 1);
        x.tick(11);
        x.damage(1);
        for (int i = 0; i < 4; i++) {
            x.explore(1, 5);
        }
        // Ring 1 has no token as long as it is damaged every four ticks.
        for (int i = 0; i < 4; i++) {
            x.tick(4);
            x.damage(1);
            CHECK.due("node(1, 1, 1)", x.node(1, 1, 1), i + 1);
        }
        counts(x, 0, 4, 0);
        CHECK.yes("explore(1, 5)", x.explore(1, 5));
        x.tick(4);
        x.damage(1);
        CHECK.due("node(1, 1, 1)", x.node(1, 1, 1), 4);
        counts(x, 0, 5, 1);
        x.tick(60);
        route(x, 1, 5, 1);
    }

    private static void fullStation() {
        CHECK.part("6 REPLY is dropped when TO's queue is full, and EXPLORE is COPIED");
        RingBridges x = new RingBridges();
        x.join(0, 1);
        x.join(0, 2);
        x.tick(11);
        x.explore(1, 2);
        for (int i = 0; i < 4; i++) {
            CHECK.yes("explore(2, 9)", x.explore(2, 9));
        }
        x.tick(2);
        CHECK.due("signal(0)", x.signal(0), 2 + 32 + 128 + 512);
        CHECK.due("node(0, 1, 1)", x.node(0, 1, 1), 4);
        x.tick(60);
        route(x, 1, 2, -1);
        counts(x, 0, 5, 4);
    }

    private static void bridgeGone() {
        CHECK.part("3, 4 a frame whose bridge is gone is LOST; the same bridge on other rings carries it there");
        RingBridges x = new RingBridges();
        x.join(0, 1);
        x.join(1, 2);
        x.join(2, 3);
        x.bridge(0, 0, 1);
        x.tick(30);
        x.explore(1, 2);
        x.tick(40);
        route(x, 1, 2, 1);
        CHECK.due("open(1, 2, 0)", x.open(1, 2, 0), 0);
        x.leave(10);
        x.bridge(0, 0, 2);
        int lost = x.count(2, 2);
        int sent = x.count(2, 1);
        x.offer(0, 1);
        x.tick(30);
        CHECK.due("count(2, 1)", x.count(2, 1), sent + 1);
        CHECK.due("count(2, 2)", x.count(2, 2), lost + 1);
        CHECK.due("connection(0, 4)", x.connection(0, 4), 0);
    }

    public static void main(String[] args) {
        exploreOnOneRing();
        exploreRefused();
        codes();
        spread();
        firstPath();
        stationGone();
        fullPort();
        fullStation();
        bridgeGone();
        CHECK.end();
    }
}
