/**
 * The edges of "Terms" about rings, and of promises 1 to 5 and 13 to 18: rings of 1 to 5 nodes with place 0 behind the
 * last one, QUIET at 6, CLAIM and PURGE at every place, a node that leaves at every place, queues of at most 4.
 */
public final class RingEdgeTests {
    private static final CheckHelp CHECK = new CheckHelp("RingEdgeTests");

    private static RingBridges ringOf(int r, int... addresses) {
        RingBridges x = new RingBridges();
        for (int address : addresses) {
            CHECK.yes("join(" + r + ", " + address + ")", x.join(r, address));
        }
        return x;
    }

    /** Stations 1, 2, .. but for the place of 9, which will be the monitor. */
    private static int[] withNineAt(int size, int place) {
        int[] addresses = new int[size];
        for (int i = 0; i < size; i++) {
            addresses[i] = i == place ? 9 : i + 1;
        }
        return addresses;
    }

    private static void due(RingBridges x, int r, int signal, int at) {
        int tick = x.tick(0);
        CHECK.due("signal(" + r + ") after tick " + tick, x.signal(r), signal);
        CHECK.due("at(" + r + ") after tick " + tick, x.at(r), at);
    }

    private static void step(RingBridges x, int r, int signal, int at) {
        x.tick(1);
        due(x, r, signal, at);
    }

    private static void ringNumbers() {
        for (int r = 0; r <= 2; r++) {
            CHECK.part("RINGS are 0, 1, 2: ring " + r + " alone moves and counts");
            RingBridges x = ringOf(r, 4, 6);
            x.tick(11);
            due(x, r, 1, 0);
            x.explore(4, 1);
            x.tick(1);
            for (int other = 0; other <= 2; other++) {
                boolean same = other == r;
                due(x, other, same ? 2 : 0, same ? 1 : -1);
                CHECK.due("monitor(" + other + ")", x.monitor(other), same ? 6 : 0);
                CHECK.due("count(" + other + ", 0)", x.count(other, 0), same ? 1 : 0);
                CHECK.due("count(" + other + ", 1)", x.count(other, 1), same ? 1 : 0);
            }
            x.tick(2);
            for (int other = 0; other <= 2; other++) {
                CHECK.due("count(" + other + ", 2)", x.count(other, 2), other == r ? 1 : 0);
            }
            CHECK.yes("damage(" + r + ")", x.damage(r));
        }
        CHECK.part("no ring -1, no ring 3");
        RingBridges x = ringOf(0, 1, 2, 3, 4, 5);
        int[] none = {-1, 3};
        for (int r : none) {
            due(x, r, -1, -1);
            CHECK.due("monitor", x.monitor(r), -1);
            for (int what = 0; what < 3; what++) {
                CHECK.due("count", x.count(r, what), -1);
                CHECK.due("node", x.node(r, 0, what), -1);
            }
        }
    }

    private static void addresses() {
        CHECK.part("2 addresses 1 .. 9, one after the other");
        RingBridges x = new RingBridges();
        CHECK.no("join(0, 0)", x.join(0, 0));
        for (int address = 1; address <= 9; address++) {
            CHECK.yes("join", x.join(address % 3, address));
        }
        CHECK.no("join(0, 10)", x.join(0, 10));
        CHECK.nodes(x, 0, 3, 6, 9);
        CHECK.nodes(x, 1, 1, 4, 7);
        CHECK.nodes(x, 2, 2, 5, 8);

        CHECK.part("3 bridges 0 .. 2 have the addresses 10 .. 12");
        CHECK.no("bridge(-1, 0, 1)", x.bridge(-1, 0, 1));
        for (int k = 0; k <= 2; k++) {
            CHECK.yes("bridge", x.bridge(k, k, (k + 1) % 3));
        }
        CHECK.no("bridge(3, 0, 1)", x.bridge(3, 0, 1));
        CHECK.nodes(x, 0, 3, 6, 9, 10, 12);
        CHECK.nodes(x, 1, 1, 4, 7, 10, 11);
        CHECK.nodes(x, 2, 2, 5, 8, 11, 12);

        CHECK.part("4 the addresses 1 and 12 leave, and can come again");
        CHECK.yes("leave(1)", x.leave(1));
        CHECK.yes("leave(12)", x.leave(12));
        CHECK.no("leave(1)", x.leave(1));
        CHECK.no("leave(12)", x.leave(12));
        CHECK.nodes(x, 0, 3, 6, 9, 10);
        CHECK.nodes(x, 1, 4, 7, 10, 11);
        CHECK.nodes(x, 2, 2, 5, 8, 11);
        CHECK.yes("join(2, 1)", x.join(2, 1));
        CHECK.yes("bridge(2, 1, 0)", x.bridge(2, 1, 0));
        CHECK.nodes(x, 0, 3, 6, 9, 10, 12);
        CHECK.nodes(x, 1, 4, 7, 10, 11, 12);
        CHECK.nodes(x, 2, 2, 5, 8, 11, 1);
        CHECK.no("leave(0)", x.leave(0));
        CHECK.no("leave(13)", x.leave(13));
    }

    private static void fiveNodes() {
        CHECK.part("2 the fifth station comes, the sixth does not, and after one went there is room again");
        RingBridges x = ringOf(1, 1, 2, 3, 4);
        CHECK.yes("join(1, 5)", x.join(1, 5));
        CHECK.no("join(1, 6)", x.join(1, 6));
        x.leave(3);
        CHECK.yes("join(1, 6)", x.join(1, 6));
        CHECK.nodes(x, 1, 1, 2, 4, 5, 6);
        CHECK.no("join(1, 3)", x.join(1, 3));
        CHECK.yes("join(0, 3)", x.join(0, 3));

        CHECK.part("3 a port is the fifth node on ring r, then on ring s; there is no sixth");
        RingBridges y = ringOf(0, 1, 2, 3, 4);
        CHECK.yes("bridge(0, 0, 1)", y.bridge(0, 0, 1));
        CHECK.no("bridge(1, 0, 1)", y.bridge(1, 0, 1));
        CHECK.no("bridge(1, 2, 0)", y.bridge(1, 2, 0));
        CHECK.no("join(0, 5)", y.join(0, 5));
        y.leave(10);
        CHECK.yes("bridge(1, 2, 0)", y.bridge(1, 2, 0));
        CHECK.nodes(y, 0, 1, 2, 3, 4, 11);
        CHECK.nodes(y, 1);
        CHECK.nodes(y, 2, 11);

        CHECK.part("3 three ports and two stations are five nodes");
        RingBridges z = ringOf(2, 1, 2);
        z.bridge(0, 2, 0);
        z.bridge(1, 1, 2);
        CHECK.yes("bridge(2, 0, 2)", z.bridge(2, 0, 2));
        CHECK.no("join(2, 3)", z.join(2, 3));
        CHECK.nodes(z, 2, 1, 2, 10, 11, 12);
    }

    private static void quiet() {
        CHECK.part("QUIET: 5 moves in SILENCE are not enough, the 6th is");
        RingBridges x = ringOf(0, 3, 5);
        for (int tick = 1; tick <= 5; tick++) {
            step(x, 0, 0, -1);
        }
        step(x, 0, 3 + 24, 1);

        CHECK.part("QUIET: each ring counts for itself, from its first node on");
        RingBridges y = ringOf(0, 3, 5);
        y.tick(3);
        y.join(2, 7);
        y.tick(2);
        due(y, 0, 0, -1);
        step(y, 0, 3 + 24, 1);
        due(y, 2, 0, -1);
        y.tick(2);
        due(y, 2, 0, -1);
        step(y, 2, 3 + 56, 0);
        due(y, 1, 0, -1);

        CHECK.part("QUIET: a node that joins does not change it");
        RingBridges z = ringOf(0, 3);
        z.tick(4);
        z.join(0, 1);
        step(z, 0, 0, -1);
        step(z, 0, 3 + 24, 1);

        CHECK.part("QUIET: it begins at 0 again after damage and again takes 6, with and without a monitor");
        z.damage(0);
        z.tick(5);
        due(z, 0, 0, -1);
        step(z, 0, 3 + 24, 1);
        z.tick(2);
        due(z, 0, 4 + 24, 1);
        CHECK.due("count(0, 0)", z.count(0, 0), 1);
        z.damage(0);
        z.tick(5);
        due(z, 0, 0, -1);
        CHECK.due("count(0, 0)", z.count(0, 0), 1);
        step(z, 0, 4 + 24, 1);
        CHECK.due("count(0, 0)", z.count(0, 0), 2);
    }

    /** The claim reaches 9 after place ticks, and 9 again after one round; the purge takes one round more. */
    private static void everySize() {
        for (int size = 1; size <= 5; size++) {
            for (int place = 0; place < size; place++) {
                CHECK.part("CLAIM and PURGE on a ring of " + size + " with 9 at place " + place);
                RingBridges x = ringOf(1, withNineAt(size, place));
                x.tick(5);
                due(x, 1, 0, -1);
                step(x, 1, 3 + 8 * (place == 0 ? 9 : 1), 1 % size);
                for (int moves = 1; moves < size + place; moves++) {
                    step(x, 1, 3 + 8 * (moves >= place ? 9 : moves + 1), (1 + moves) % size);
                }
                CHECK.due("monitor(1)", x.monitor(1), 0);
                CHECK.due("count(1, 0)", x.count(1, 0), 0);
                for (int moves = 0; moves < size; moves++) {
                    step(x, 1, 4 + 72, (place + 1 + moves) % size);
                    CHECK.due("monitor(1)", x.monitor(1), 9);
                    CHECK.due("count(1, 0)", x.count(1, 0), 1);
                }
                for (int moves = 0; moves <= size; moves++) {
                    step(x, 1, 1, (place + 1 + moves) % size);
                }
                purgeFromSilence(x, size, place);
            }
        }
    }

    private static void purgeFromSilence(RingBridges x, int size, int place) {
        CHECK.part("PURGE out of SILENCE on a ring of " + size + " by 9 at place " + place);
        CHECK.yes("damage(1)", x.damage(1));
        x.tick(5);
        due(x, 1, 0, -1);
        for (int moves = 0; moves < size; moves++) {
            step(x, 1, 4 + 72, (place + 1 + moves) % size);
            CHECK.due("count(1, 0)", x.count(1, 0), 2);
        }
        step(x, 1, 1, (place + 1) % size);
        CHECK.due("monitor(1)", x.monitor(1), 9);
    }

    private static void claimOfPorts() {
        CHECK.part("14 CLAIM and PURGE with the greatest address, 12");
        RingBridges x = new RingBridges();
        x.bridge(2, 1, 2);
        x.tick(6);
        due(x, 1, 3 + 96, 0);
        due(x, 2, 3 + 96, 0);
        x.tick(1);
        due(x, 1, 4 + 96, 0);
        due(x, 2, 4 + 96, 0);
        CHECK.due("monitor(1)", x.monitor(1), 12);
        CHECK.due("monitor(2)", x.monitor(2), 12);

        CHECK.part("14 CLAIM with the least address, 1");
        RingBridges y = ringOf(0, 1);
        y.tick(6);
        due(y, 0, 3 + 8, 0);
        y.tick(1);
        due(y, 0, 4 + 8, 0);

        CHECK.part("CLAIM: of two addresses the greater one by 1 wins, before or behind the other");
        RingBridges z = ringOf(0, 9);
        z.bridge(0, 0, 1);
        z.bridge(1, 0, 1);
        z.tick(20);
        CHECK.due("monitor(0)", z.monitor(0), 11);
        CHECK.due("monitor(1)", z.monitor(1), 11);
        RingBridges w = ringOf(0, 5, 4);
        w.tick(20);
        CHECK.due("monitor(0)", w.monitor(0), 5);
    }

    private static int placeAfterLeave(int at, int left, int size) {
        if (left < at) {
            return at - 1;
        }
        return at < size - 1 ? at : 0;
    }

    /** The token is at every place when the node of every place leaves. */
    private static void leaveEverywhere() {
        for (int size = 2; size <= 5; size++) {
            for (int at = 0; at < size; at++) {
                for (int left = 0; left < size; left++) {
                    leaveOne(size, at, left);
                }
            }
        }
        CHECK.part("4 the only node leaves: SILENCE with QUIET 0, no monitor");
        RingBridges x = ringOf(0, 9);
        x.tick(8);
        due(x, 0, 1, 0);
        x.leave(9);
        due(x, 0, 0, -1);
        CHECK.due("monitor(0)", x.monitor(0), 0);
        CHECK.due("count(0, 0)", x.count(0, 0), 1);
        x.tick(50);
        x.join(0, 2);
        x.tick(5);
        due(x, 0, 0, -1);
        step(x, 0, 3 + 16, 0);
    }

    private static void leaveOne(int size, int at, int left) {
        CHECK.part("4 on a ring of " + size + " with AT " + at + " the node at place " + left + " leaves");
        int[] addresses = withNineAt(size, 0);
        RingBridges x = ringOf(0, addresses);
        x.tick(6 + 2 * size);
        due(x, 0, 1, 1 % size);
        x.tick((at + size - 1) % size);
        due(x, 0, 1, at);
        CHECK.yes("leave", x.leave(addresses[left]));
        int[] rest = new int[size - 1];
        for (int place = 0; place < size - 1; place++) {
            rest[place] = addresses[place < left ? place : place + 1];
        }
        CHECK.nodes(x, 0, rest);
        CHECK.due("monitor(0)", x.monitor(0), left == 0 ? 0 : 9);
        int next = placeAfterLeave(at, left, size);
        due(x, 0, 1, next);
        for (int moves = 1; moves <= size; moves++) {
            step(x, 0, 1, (next + moves) % (size - 1));
        }
    }

    private static void leaveWithSignal() {
        CHECK.part("4 a CLAIM with another address goes on, one with its own is SILENCE");
        RingBridges x = ringOf(0, 4, 2, 3);
        x.tick(7);
        due(x, 0, 3 + 32, 2);
        x.leave(2);
        due(x, 0, 3 + 32, 1);
        x.tick(1);
        due(x, 0, 3 + 32, 0);
        x.leave(4);
        due(x, 0, 0, -1);
        x.tick(5);
        due(x, 0, 0, -1);
        step(x, 0, 3 + 24, 0);

        CHECK.part("4 a bridge leaves: a CLAIM and a PURGE with its address, on both rings, are SILENCE with QUIET 0");
        RingBridges y = ringOf(0, 1);
        y.join(1, 2);
        y.join(2, 3);
        y.tick(4);
        y.bridge(0, 1, 0);
        y.tick(3);
        due(y, 0, 3 + 80, 0);
        due(y, 1, 3 + 80, 0);
        due(y, 2, 4 + 24, 0);
        y.tick(2);
        due(y, 0, 4 + 80, 0);
        y.damage(1);
        y.tick(2);
        due(y, 0, 1, 0);
        y.leave(10);
        due(y, 0, 1, 0);
        due(y, 1, 0, -1);
        due(y, 2, 1, 0);
        CHECK.due("monitor(0)", y.monitor(0), 0);
        CHECK.due("monitor(1)", y.monitor(1), 0);
        CHECK.due("monitor(2)", y.monitor(2), 3);

        CHECK.part("4 a PURGE on one ring and a CLAIM on the other, both with the address of the bridge that leaves");
        RingBridges z = ringOf(0, 1);
        z.bridge(2, 0, 1);
        z.tick(7);
        due(z, 0, 3 + 96, 0);
        due(z, 1, 4 + 96, 0);
        z.leave(12);
        due(z, 0, 0, -1);
        due(z, 1, 0, -1);
        CHECK.nodes(z, 0, 1);
        CHECK.nodes(z, 1);
        z.join(1, 5);
        z.tick(5);
        due(z, 0, 0, -1);
        due(z, 1, 0, -1);
        z.tick(1);
        due(z, 0, 3 + 8, 0);
        due(z, 1, 3 + 40, 0);
    }

    private static void joinWhileMoving() {
        CHECK.part("2 a station that joins gets the signal when AT is its place");
        RingBridges x = ringOf(0, 5, 1);
        x.tick(10);
        due(x, 0, 1, 1);
        x.join(0, 2);
        due(x, 0, 1, 1);
        step(x, 0, 1, 2);
        step(x, 0, 1, 0);

        CHECK.part("2 a greater address that joins is not the monitor, as long as there is one");
        x.join(0, 9);
        x.damage(0);
        x.tick(20);
        CHECK.due("monitor(0)", x.monitor(0), 5);
        x.leave(5);
        x.damage(0);
        x.tick(20);
        CHECK.due("monitor(0)", x.monitor(0), 9);
    }

    /** Whether a frame has a receiver shows which of those that wait it is. */
    private static void queueOrder() {
        CHECK.part("a QUEUE of 4: the first one first, also when it was filled again and again");
        RingBridges x = ringOf(0, 1, 3);
        x.open(1, 3, 0);
        x.tick(11);
        boolean[] there = {true, false, false, true, true, true, false, true, false, false, true, false};
        int queued = 0;
        int lost = 0;
        for (int frame = 0; frame < there.length; frame++) {
            while (queued < there.length && x.node(0, 0, 1) < 4) {
                CHECK.yes("explore", x.explore(1, there[queued] ? 3 : 9));
                queued++;
            }
            CHECK.no("explore", queued < there.length && x.explore(1, 3));
            lost += there[frame] ? 0 : 1;
            nextFrameOf(x, Math.min(4, there.length - frame) - 1);
            CHECK.due("count(0, 2) after frame " + frame, x.count(0, 2), lost);
        }
    }

    /** Ticks until station 1 has sent its next frame and taken it off. */
    private static void nextFrameOf(RingBridges x, int left) {
        for (int i = 0; i < 12 && x.node(0, 0, 1) != left; i++) {
            x.tick(1);
        }
        CHECK.due("node(0, 0, 1)", x.node(0, 0, 1), left);
        x.tick(2);
    }

    private static void queueFull() {
        CHECK.part("17 how many frames wait: 0 .. 4");
        RingBridges x = ringOf(0, 7, 2);
        for (int waits = 0; waits < 4; waits++) {
            CHECK.due("node(0, 1, 1)", x.node(0, 1, 1), waits);
            CHECK.yes("explore(2, 1)", x.explore(2, 1));
        }
        CHECK.due("node(0, 1, 1)", x.node(0, 1, 1), 4);
        CHECK.no("explore(2, 1)", x.explore(2, 1));
        CHECK.due("node(0, 1, 1)", x.node(0, 1, 1), 4);
        CHECK.due("node(0, 0, 1)", x.node(0, 0, 1), 0);

        CHECK.part("4 what waits is dropped: the node that comes again has an empty queue and an empty stack");
        x.leave(2);
        x.join(0, 2);
        CHECK.due("node(0, 1, 1)", x.node(0, 1, 1), 0);
        x.tick(40);
        CHECK.due("count(0, 1)", x.count(0, 1), 0);

        CHECK.part("4 the queue of a node behind it stays with that node");
        x.explore(2, 1);
        x.explore(2, 1);
        x.leave(7);
        CHECK.nodes(x, 0, 2);
        CHECK.due("node(0, 0, 1)", x.node(0, 0, 1), 2);
    }

    private static void stackLeft() {
        CHECK.part("4 the stack of a node behind it stays with that node; one that comes again has none");
        RingBridges x = ringOf(0, 1, 2, 3);
        x.tick(14);
        x.explore(2, 3);
        x.tick(5);
        due(x, 0, 1 + 16, 2);
        CHECK.due("node(0, 1, 2)", x.node(0, 1, 2), 1);
        x.leave(1);
        CHECK.due("node(0, 0, 2)", x.node(0, 0, 2), 1);
        CHECK.due("node(0, 1, 2)", x.node(0, 1, 2), 0);
        x.leave(2);
        x.join(0, 2);
        CHECK.nodes(x, 0, 3, 2);
        CHECK.due("node(0, 0, 2)", x.node(0, 0, 2), 0);
        CHECK.due("node(0, 1, 2)", x.node(0, 1, 2), 0);
    }

    private static void lookEdges() {
        CHECK.part("17 places 0 .. 4 of a full ring, and what 0 .. 2");
        RingBridges x = ringOf(2, 1, 2, 3, 4, 5);
        CHECK.due("node(2, -1, 0)", x.node(2, -1, 0), -1);
        CHECK.due("node(2, 0, 0)", x.node(2, 0, 0), 1);
        CHECK.due("node(2, 4, 0)", x.node(2, 4, 0), 5);
        CHECK.due("node(2, 5, 0)", x.node(2, 5, 0), -1);
        CHECK.due("node(2, 4, -1)", x.node(2, 4, -1), -1);
        CHECK.due("node(2, 4, 1)", x.node(2, 4, 1), 0);
        CHECK.due("node(2, 4, 2)", x.node(2, 4, 2), 0);
        CHECK.due("node(2, 4, 3)", x.node(2, 4, 3), -1);
        x.leave(5);
        CHECK.due("node(2, 3, 0)", x.node(2, 3, 0), 4);
        for (int what = 0; what < 3; what++) {
            CHECK.due("node(2, 4, " + what + ")", x.node(2, 4, what), -1);
            CHECK.due("node(1, 0, " + what + ")", x.node(1, 0, what), -1);
        }

        CHECK.part("18 what 0 .. 2");
        CHECK.due("count(2, -1)", x.count(2, -1), -1);
        CHECK.due("count(2, 0)", x.count(2, 0), 0);
        CHECK.due("count(2, 2)", x.count(2, 2), 0);
        CHECK.due("count(2, 3)", x.count(2, 3), -1);
    }

    private static void ticks() {
        CHECK.part("13 0, 1 and 200 ticks are made, -1 and 201 are not");
        RingBridges x = ringOf(0, 9);
        CHECK.due("tick(0)", x.tick(0), 0);
        CHECK.due("tick(1)", x.tick(1), 1);
        CHECK.due("tick(-1)", x.tick(-1), 1);
        CHECK.due("tick(201)", x.tick(201), 1);
        x.tick(4);
        due(x, 0, 0, -1);
        CHECK.due("tick(1)", x.tick(1), 6);
        due(x, 0, 3 + 72, 0);
        CHECK.due("tick(200)", x.tick(200), 206);
        due(x, 0, 1, 0);

        CHECK.part("13 in a tick ring 0 moves before ring 1, and ring 1 before ring 2");
        RingBridges y = ringOf(0, 1);
        y.join(1, 2);
        y.bridge(0, 0, 1);
        y.tick(11);
        due(y, 0, 1, 0);
        due(y, 1, 1, 0);
        y.explore(1, 2);
        y.tick(1);
        due(y, 0, 2, 1);
        due(y, 1, 1, 1);
        // The port copies it on ring 0, and sends it on ring 1 in the same tick.
        y.tick(1);
        due(y, 0, 2 + 128 + 512, 0);
        due(y, 1, 2, 0);
        CHECK.due("node(1, 1, 1)", y.node(1, 1, 1), 0);

        CHECK.part("13 what ring 1 hands to ring 0 waits for the next tick");
        RingBridges z = ringOf(1, 1);
        z.join(0, 2);
        z.bridge(0, 0, 1);
        z.tick(11);
        z.explore(1, 2);
        z.tick(1);
        due(z, 1, 2, 1);
        due(z, 0, 1, 1);
        z.tick(1);
        due(z, 1, 2 + 128 + 512, 0);
        due(z, 0, 1, 0);
        CHECK.due("node(0, 1, 1)", z.node(0, 1, 1), 1);

        CHECK.part("13 ring 1 before ring 2");
        RingBridges w = ringOf(1, 1);
        w.join(2, 2);
        w.bridge(0, 2, 1);
        w.tick(11);
        w.explore(1, 2);
        w.tick(2);
        due(w, 1, 2 + 128 + 512, 0);
        due(w, 2, 2, 0);
    }

    private static void lastCall() {
        CHECK.part("an object is good for 512 calls: ticks are counted, and openings are told apart up to the last one");
        RingBridges x = ringOf(0, 1, 2);
        for (int call = 3; call <= 512; call++) {
            CHECK.due("tick(200), call " + call, x.tick(200), 200 * (call - 2));
        }
        RingBridges y = ringOf(0, 1, 2);
        y.tick(11);
        for (int call = 4; call <= 508; call += 4) {
            CHECK.due("open(1, 2, 0)", y.open(1, 2, 0), 0);
            CHECK.yes("offer", y.offer(0, 200));
            y.tick(1);
            CHECK.yes("close(0)", y.close(0));
        }
        CHECK.due("open(1, 2, 0)", y.open(1, 2, 0), 0);
        y.tick(100);
        CHECK.due("take(0)", y.take(0), -1);
        CHECK.due("connection(0, 4)", y.connection(0, 4), 0);
    }

    private static void damageEdges() {
        CHECK.part("5 CLAIM, PURGE, TOKEN become SILENCE; a FRAME stays one and is BAD, also twice");
        RingBridges x = ringOf(2, 6, 7);
        CHECK.no("damage(2)", x.damage(2));
        x.tick(6);
        CHECK.yes("damage(2)", x.damage(2));
        due(x, 2, 0, -1);
        CHECK.no("damage(2)", x.damage(2));
        x.tick(9);
        due(x, 2, 4 + 56, 0);
        CHECK.yes("damage(2)", x.damage(2));
        due(x, 2, 0, -1);
        x.tick(8);
        due(x, 2, 1, 0);
        CHECK.yes("damage(2)", x.damage(2));
        due(x, 2, 0, -1);
        CHECK.no("damage(2)", x.damage(2));
        x.tick(8);
        x.explore(6, 7);
        x.tick(1);
        due(x, 2, 2, 1);
        CHECK.yes("damage(2)", x.damage(2));
        due(x, 2, 2 + 256, 1);
        CHECK.yes("damage(2)", x.damage(2));
        due(x, 2, 2 + 256, 1);
        CHECK.no("damage(1)", x.damage(1));
        CHECK.no("damage(0)", x.damage(0));
    }

    public static void main(String[] args) {
        ringNumbers();
        addresses();
        fiveNodes();
        quiet();
        everySize();
        claimOfPorts();
        leaveEverywhere();
        leaveWithSignal();
        joinWhileMoving();
        queueOrder();
        queueFull();
        stackLeft();
        lookEdges();
        ticks();
        lastCall();
        damageEdges();
        CHECK.end();
    }
}
