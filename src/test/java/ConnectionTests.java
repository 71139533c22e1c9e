/** Promises 9 to 12 and 19: connections and their bytes. */
public final class ConnectionTests {
    private static final CheckHelp CHECK = new CheckHelp("ConnectionTests");

    /** Ring 0 with stations 1 and 2 (the monitor); 11 ticks have been, and the token comes next to 1. */
    private static RingBridges pair() {
        RingBridges x = new RingBridges();
        x.join(0, 1);
        x.join(0, 2);
        x.tick(11);
        CHECK.due("signal(0)", x.signal(0), 1);
        CHECK.due("at(0)", x.at(0), 0);
        return x;
    }

    private static RingBridges pairWith(int bytes) {
        RingBridges x = pair();
        CHECK.due("open(1, 2, 0)", x.open(1, 2, 0), 0);
        for (int i = 0; i < bytes; i++) {
            CHECK.yes("offer", x.offer(0, 11 + i));
        }
        return x;
    }

    /** Ticks up to the given number of all ticks. */
    private static void until(RingBridges x, int ticks) {
        CHECK.due("tick", x.tick(ticks - x.tick(0)), ticks);
    }

    private static void con(RingBridges x, int what, int want) {
        CHECK.due("connection(0, " + what + ")", x.connection(0, what), want);
    }

    private static void waits(RingBridges x, int place, int want) {
        CHECK.due("node(0, " + place + ", 1)", x.node(0, place, 1), want);
    }

    private static void open() {
        CHECK.part("9 open");
        RingBridges x = pair();
        x.join(1, 5);
        CHECK.due("open(1, 3, 0)", x.open(1, 3, 0), -1);
        CHECK.due("open(3, 1, 0)", x.open(3, 1, 0), -1);
        CHECK.due("open(0, 1, 0)", x.open(0, 1, 0), -1);
        CHECK.due("open(1, 10, 0)", x.open(1, 10, 0), -1);
        CHECK.due("open(1, 1, 0)", x.open(1, 1, 0), -1);
        CHECK.due("open(1, 2, -1)", x.open(1, 2, -1), -1);
        CHECK.due("open(1, 2, 4)", x.open(1, 2, 4), -1);
        CHECK.due("open(1, 5, 0)", x.open(1, 5, 0), -2);
        CHECK.due("open(1, 5, 4)", x.open(1, 5, 4), -1);
        for (int c = 0; c < 4; c++) {
            CHECK.due("connection", x.connection(c, 0), 0);
        }
        for (int c = 0; c < 4; c++) {
            CHECK.due("open(2, 1, c)", x.open(2, 1, c), c);
            CHECK.due("connection", x.connection(c, 0), 1);
            for (int what = 1; what < 8; what++) {
                CHECK.due("connection", x.connection(c, what), 0);
            }
        }
        CHECK.due("open(1, 2, 0)", x.open(1, 2, 0), -3);
        CHECK.due("open(1, 5, 0)", x.open(1, 5, 0), -2);
        CHECK.due("open(1, 1, 0)", x.open(1, 1, 0), -1);
        x.close(2);
        x.close(1);
        CHECK.due("open(1, 2, 0)", x.open(1, 2, 0), 1);
        CHECK.due("open(1, 2, 0)", x.open(1, 2, 0), 2);
        CHECK.due("open(1, 2, 0)", x.open(1, 2, 0), -3);

        CHECK.part("9 a port is no station");
        RingBridges y = new RingBridges();
        y.join(0, 1);
        y.bridge(0, 0, 1);
        CHECK.due("open(1, 10, 0)", y.open(1, 10, 0), -1);
        CHECK.due("open(10, 1, 0)", y.open(10, 1, 0), -1);
    }

    private static void openWithEmptyPath() {
        CHECK.part("9 a route without bridges does not lead to another ring");
        RingBridges x = pair();
        x.explore(1, 2);
        until(x, 15);
        CHECK.due("signal(0)", x.signal(0), 2 + 16);
        // REPLY is under way when station 2 goes to ring 1.
        x.leave(2);
        x.join(1, 2);
        until(x, 16);
        CHECK.due("signal(0)", x.signal(0), 2 + 16 + 512);
        CHECK.due("route(1, 2)", x.route(1, 2), 0);
        CHECK.due("open(1, 2, 0)", x.open(1, 2, 0), -2);

        CHECK.part("9 on one ring no route is needed, and a known one is not used");
        RingBridges y = new RingBridges();
        y.join(0, 1);
        y.join(1, 2);
        y.bridge(0, 0, 1);
        y.tick(30);
        y.explore(1, 2);
        y.tick(30);
        CHECK.due("route(1, 2)", y.route(1, 2), 1);
        y.explore(1, 2);
        y.leave(2);
        y.join(0, 2);
        CHECK.due("route(1, 2)", y.route(1, 2), -1);
        CHECK.due("open(1, 2, 0)", y.open(1, 2, 0), 0);
        y.offer(0, 77);
        y.tick(40);
        CHECK.due("take(0)", y.take(0), 77);
    }

    private static void close() {
        CHECK.part("10 close");
        RingBridges x = pairWith(2);
        CHECK.no("close(-1)", x.close(-1));
        CHECK.no("close(4)", x.close(4));
        CHECK.no("close(1)", x.close(1));
        until(x, 12);
        waits(x, 0, 2);
        CHECK.yes("close(0)", x.close(0));
        CHECK.no("close(0)", x.close(0));
        con(x, 0, 0);
        con(x, 1, -1);

        CHECK.part("10 frames of an earlier opening have no effect, but are COPIED");
        CHECK.due("open(1, 2, 0)", x.open(1, 2, 0), 0);
        until(x, 40);
        waits(x, 0, 0);
        waits(x, 1, 0);
        con(x, 4, 0);
        con(x, 5, 0);
        CHECK.due("count(0, 1)", x.count(0, 1), 2);
        CHECK.due("count(0, 2)", x.count(0, 2), 0);
        x.offer(0, 99);
        until(x, 60);
        CHECK.due("take(0)", x.take(0), 99);
        CHECK.due("take(0)", x.take(0), -1);

        CHECK.part("10 a new opening starts anew");
        RingBridges y = pairWith(8);
        until(y, 50);
        con(y, 5, 4);
        CHECK.yes("close(0)", y.close(0));
        CHECK.due("open(2, 1, 3)", y.open(2, 1, 3), 0);
        con(y, 0, 1);
        for (int what = 1; what < 8; what++) {
            con(y, what, 0);
        }
        CHECK.due("take(0)", y.take(0), -1);
    }

    private static void offer() {
        CHECK.part("11 offer");
        RingBridges x = pair();
        CHECK.no("offer(0, 1)", x.offer(0, 1));
        x.open(1, 2, 0);
        CHECK.no("offer(-1, 1)", x.offer(-1, 1));
        CHECK.no("offer(4, 1)", x.offer(4, 1));
        CHECK.no("offer(1, 1)", x.offer(1, 1));
        CHECK.no("offer(0, -1)", x.offer(0, -1));
        CHECK.no("offer(0, 256)", x.offer(0, 256));
        con(x, 3, 0);
        for (int i = 0; i < 8; i++) {
            CHECK.yes("offer", x.offer(0, i == 0 ? 0 : 256 - i));
            con(x, 3, i + 1);
        }
        CHECK.no("offer(0, 1)", x.offer(0, 1));
        con(x, 3, 8);
        until(x, 17);
        CHECK.no("offer(0, 1)", x.offer(0, 1));
        until(x, 18);
        con(x, 3, 7);
        CHECK.yes("offer(0, 1)", x.offer(0, 1));
        CHECK.no("offer(0, 1)", x.offer(0, 1));
        x.leave(2);
        con(x, 0, 2);
        x.close(0);
        CHECK.no("offer(0, 1)", x.offer(0, 1));
    }

    private static void window() {
        CHECK.part("19 three bytes are sent at most, acknowledged one by one");
        RingBridges x = pairWith(5);
        con(x, 2, 0);
        waits(x, 0, 0);
        until(x, 12);
        con(x, 2, 3);
        con(x, 7, 0);
        waits(x, 0, 3);
        until(x, 14);
        CHECK.due("signal(0)", x.signal(0), 2);
        con(x, 7, 2);
        until(x, 15);
        CHECK.due("signal(0)", x.signal(0), 2 + 64 + 128 + 512);
        con(x, 1, 0);
        con(x, 4, 1);
        con(x, 5, 1);
        con(x, 7, 3);
        until(x, 17);
        con(x, 1, 0);
        con(x, 2, 3);
        con(x, 7, 5);
        until(x, 18);
        con(x, 1, 1);
        con(x, 2, 3);
        con(x, 3, 4);
        con(x, 7, 1);
        until(x, 33);
        con(x, 4, 4);
        con(x, 5, 4);
        until(x, 36);
        con(x, 1, 4);
        con(x, 2, 1);

        CHECK.part("19 no such connection or number");
        con(x, 8, -1);
        con(x, -1, -1);
        CHECK.due("connection(-1, 0)", x.connection(-1, 0), -1);
        CHECK.due("connection(4, 0)", x.connection(4, 0), -1);
        CHECK.due("connection(1, 0)", x.connection(1, 0), 0);
        CHECK.due("connection(1, 1)", x.connection(1, 1), -1);
        CHECK.due("connection(1, 8)", x.connection(1, 8), -1);
    }

    /** Five bytes, of which the last one finds a full inbox at tick 39; BUSY comes to station 1 at tick 42. */
    private static RingBridges busy() {
        RingBridges x = pairWith(5);
        until(x, 41);
        con(x, 4, 4);
        con(x, 5, 4);
        CHECK.due("connection(0, 7)", x.connection(0, 7), 6);
        until(x, 42);
        con(x, 7, 101);
        con(x, 1, 4);
        con(x, 2, 1);
        con(x, 6, 0);
        return x;
    }

    private static void waiting() {
        CHECK.part("12 READY when PUTTING OFF");
        RingBridges x = busy();
        until(x, 45);
        con(x, 7, 104);
        waits(x, 1, 0);
        CHECK.due("take(0)", x.take(0), 11);
        waits(x, 1, 1);
        CHECK.due("take(0)", x.take(0), 12);
        waits(x, 1, 1);
        until(x, 47);
        con(x, 7, 106);
        until(x, 48);
        con(x, 7, 7);
        con(x, 2, 1);
        until(x, 100);
        con(x, 7, 59);
        con(x, 6, 0);
        until(x, 101);
        con(x, 7, 0);
        con(x, 6, 1);
        con(x, 2, 1);
        until(x, 103);
        con(x, 4, 5);
        con(x, 5, 3);
        con(x, 6, 1);
        until(x, 106);
        con(x, 1, 5);
        con(x, 6, 0);
        con(x, 7, 0);
        for (int v = 13; v <= 15; v++) {
            CHECK.due("take(0)", x.take(0), v);
        }
        CHECK.due("take(0)", x.take(0), -1);
        waits(x, 1, 0);

        CHECK.part("13 WAITING ends after 60 ticks, and four times of that fail");
        RingBridges y = busy();
        until(y, 100);
        con(y, 7, 159);
        con(y, 6, 0);
        until(y, 101);
        con(y, 7, 0);
        con(y, 6, 1);
        con(y, 2, 1);
        con(y, 0, 1);
        y.tick(200);
        y.tick(200);
        con(y, 0, 2);
        con(y, 6, 4);
        con(y, 2, 0);
        con(y, 3, 1);
        con(y, 7, 0);

        CHECK.part("12 take of a FAILED one");
        for (int v = 11; v <= 14; v++) {
            CHECK.due("take(0)", y.take(0), v);
            waits(y, 1, 0);
        }
        CHECK.due("take(0)", y.take(0), -1);
        CHECK.no("offer(0, 1)", y.offer(0, 1));
        CHECK.yes("close(0)", y.close(0));
    }

    private static void takeWithFullQueue() {
        CHECK.part("12 a full queue keeps b PUTTING OFF");
        RingBridges x = busy();
        until(x, 45);
        for (int i = 0; i < 4; i++) {
            CHECK.yes("explore(2, 9)", x.explore(2, 9));
        }
        CHECK.due("take(0)", x.take(0), 11);
        waits(x, 1, 4);
        until(x, 47);
        waits(x, 1, 3);
        CHECK.due("take(0)", x.take(0), 12);
        waits(x, 1, 4);
        until(x, 49);
        CHECK.due("take(0)", x.take(0), 13);

        CHECK.part("12 take refused");
        RingBridges y = pairWith(1);
        CHECK.due("take(0)", y.take(0), -1);
        CHECK.due("take(1)", y.take(1), -1);
        CHECK.due("take(-1)", y.take(-1), -1);
        CHECK.due("take(4)", y.take(4), -1);
        until(y, 20);
        y.close(0);
        CHECK.due("take(0)", y.take(0), -1);

        CHECK.part("12 with nothing in the inbox take changes nothing");
        RingBridges z = busy();
        until(z, 45);
        for (int i = 0; i < 4; i++) {
            z.explore(2, 9);
        }
        for (int v = 11; v <= 14; v++) {
            CHECK.due("take(0)", z.take(0), v);
        }
        until(z, 47);
        waits(z, 1, 3);
        CHECK.due("take(0)", z.take(0), -1);
        waits(z, 1, 3);
    }

    private static void again() {
        CHECK.part("13 a lost byte: AGAIN once, then all are sent again");
        RingBridges x = pairWith(3);
        until(x, 14);
        x.damage(0);
        until(x, 15);
        CHECK.due("signal(0)", x.signal(0), 2 + 128 + 256);
        con(x, 4, 0);
        until(x, 19);
        CHECK.due("signal(0)", x.signal(0), 2 + 64 + 128 + 512);
        con(x, 4, 0);
        con(x, 5, 0);
        waits(x, 1, 1);
        con(x, 7, 7);
        until(x, 22);
        con(x, 2, 3);
        con(x, 7, 0);
        waits(x, 0, 4);
        until(x, 25);
        CHECK.due("signal(0)", x.signal(0), 2 + 128 + 512);
        waits(x, 1, 0);
        con(x, 4, 0);
        until(x, 29);
        con(x, 4, 1);
        until(x, 60);
        for (int v = 11; v <= 13; v++) {
            CHECK.due("take(0)", x.take(0), v);
        }
        con(x, 1, 3);
        con(x, 6, 0);
        CHECK.due("count(0, 2)", x.count(0, 2), 1);

        CHECK.part("13 after a byte was accepted, it complains anew");
        for (int v = 21; v <= 23; v++) {
            x.offer(0, v);
        }
        until(x, 61);
        waits(x, 0, 3);
        for (int i = 0; i < 9 && x.node(0, 0, 1) == 3; i++) {
            x.tick(1);
        }
        CHECK.due("signal(0)", x.signal(0), 2);
        x.damage(0);
        x.tick(40);
        con(x, 4, 6);
        con(x, 6, 0);
    }

    private static void repeated() {
        CHECK.part("13 a lost READY: the byte comes twice and is accepted once");
        RingBridges x = pairWith(1);
        until(x, 17);
        CHECK.due("signal(0)", x.signal(0), 2 + 16);
        x.damage(0);
        until(x, 18);
        CHECK.due("signal(0)", x.signal(0), 2 + 16 + 256);
        con(x, 1, 0);
        until(x, 71);
        con(x, 7, 59);
        con(x, 6, 0);
        until(x, 72);
        con(x, 7, 0);
        con(x, 6, 1);
        con(x, 2, 1);
        until(x, 75);
        con(x, 4, 1);
        con(x, 5, 1);
        waits(x, 1, 1);
        until(x, 78);
        con(x, 1, 1);
        con(x, 2, 0);
        con(x, 3, 0);
        con(x, 6, 0);
        CHECK.due("take(0)", x.take(0), 11);
        CHECK.due("take(0)", x.take(0), -1);
    }

    /** Ticks on a ring of two that begins in SILENCE and never gets a monitor, since a CLAIM lives for three ticks at most. */
    private static void silentTicks(RingBridges x, int ticks) {
        for (int done = 0; done < ticks; done += 3) {
            x.tick(Math.min(3, ticks - done));
            x.damage(0);
        }
        CHECK.due("monitor(0)", x.monitor(0), 0);
    }

    private static void tries() {
        CHECK.part("13 four tries, then FAILED");
        RingBridges x = new RingBridges();
        x.join(0, 1);
        x.join(0, 2);
        x.open(1, 2, 3);
        x.offer(0, 5);
        silentTicks(x, 60);
        con(x, 7, 59);
        for (int tries = 1; tries <= 3; tries++) {
            waits(x, 0, tries);
            silentTicks(x, 1);
            con(x, 0, 1);
            con(x, 6, tries);
            con(x, 7, 0);
            con(x, 2, 1);
            waits(x, 0, tries + 1);
            silentTicks(x, 59);
            con(x, 7, 59);
        }
        silentTicks(x, 1);
        con(x, 0, 2);
        con(x, 6, 4);
        con(x, 7, 0);
        con(x, 2, 0);
        con(x, 3, 1);
        waits(x, 0, 4);
        silentTicks(x, 100);
        con(x, 6, 4);
        con(x, 7, 0);

        CHECK.part("13 with a full queue nothing is sent, and the timer is 0");
        RingBridges y = new RingBridges();
        y.join(0, 1);
        y.join(0, 2);
        y.open(1, 2, 3);
        for (int i = 0; i < 8; i++) {
            y.offer(0, i);
        }
        silentTicks(y, 61);
        con(y, 6, 1);
        con(y, 2, 1);
        waits(y, 0, 4);
        silentTicks(y, 60);
        con(y, 6, 2);
        con(y, 2, 0);
        con(y, 7, 0);
        silentTicks(y, 200);
        con(y, 0, 1);
        con(y, 6, 2);
        con(y, 2, 0);
        con(y, 7, 0);
    }

    private static void order() {
        CHECK.part("13 connections send in their order");
        RingBridges x = pair();
        x.open(1, 2, 0);
        x.open(1, 2, 0);
        x.open(2, 1, 0);
        for (int i = 0; i < 3; i++) {
            x.offer(0, i);
            x.offer(1, i);
            x.offer(2, i);
        }
        x.tick(1);
        CHECK.due("connection(0, 2)", x.connection(0, 2), 3);
        CHECK.due("connection(1, 2)", x.connection(1, 2), 1);
        CHECK.due("connection(2, 2)", x.connection(2, 2), 3);
        waits(x, 0, 4);
        waits(x, 1, 3);
        x.tick(200);
        for (int c = 0; c < 3; c++) {
            for (int i = 0; i < 3; i++) {
                CHECK.due("take", x.take(c), i);
            }
        }
    }

    private static void leave() {
        CHECK.part("4 OPEN connections of a station that goes are FAILED");
        RingBridges x = pair();
        x.join(0, 3);
        x.open(1, 2, 0);
        x.open(2, 3, 0);
        x.open(1, 3, 0);
        x.offer(0, 4);
        x.tick(20);
        con(x, 5, 1);
        x.leave(2);
        con(x, 0, 2);
        CHECK.due("connection(1, 0)", x.connection(1, 0), 2);
        CHECK.due("connection(2, 0)", x.connection(2, 0), 1);
        x.join(0, 2);
        con(x, 0, 2);
        CHECK.due("take(0)", x.take(0), 4);
        CHECK.due("take(0)", x.take(0), -1);
        CHECK.due("open(1, 2, 0)", x.open(1, 2, 0), 3);
    }

    /** More bytes than there are numbers, over two bridges, with a frame damaged now and then. */
    private static void longRow() {
        CHECK.part("12 bytes come in order over two bridges");
        RingBridges x = new RingBridges();
        x.join(0, 1);
        x.join(1, 5);
        x.join(2, 9);
        x.bridge(2, 0, 1);
        x.bridge(1, 1, 2);
        x.tick(30);
        x.explore(1, 9);
        x.tick(60);
        CHECK.due("route(1, 9)", x.route(1, 9), 3 + 4 * 2);
        CHECK.due("open(1, 9, 1)", x.open(1, 9, 1), 0);
        // The route of an opened connection stays, whatever is forgotten.
        x.forget(1, 9);
        int offered = 0;
        int taken = 0;
        for (int round = 0; round < 160 && taken < 30; round++) {
            if (offered < 30 && x.offer(0, 100 + offered)) {
                offered++;
            }
            x.tick(11);
            if (round % 17 == 0) {
                x.damage(round % 3);
            }
            int v = x.take(0);
            if (v >= 0) {
                CHECK.due("take(0)", v, 100 + taken);
                taken++;
            }
        }
        CHECK.due("bytes taken", taken, 30);
        x.tick(200);
        con(x, 0, 1);
        con(x, 1, 30);
        con(x, 4, 30);
    }

    public static void main(String[] args) {
        open();
        openWithEmptyPath();
        close();
        offer();
        window();
        waiting();
        takeWithFullQueue();
        again();
        repeated();
        tries();
        order();
        leave();
        longRow();
        CHECK.end();
    }
}
