/**
 * The edges of "CONNECTIONS" and of a TICK, and of promises 9 to 13 and 19: connections 0 .. 3, 8 bytes offered, SENT
 * 0 .. 3, numbers mod 8, an inbox of 4, the TIMER at 60, TRIES at 4, queues that are full when a frame is queued.
 *
 * Ring 0 has the stations 1 (place 0) and 2 (place 1, the monitor); connection 0 goes from 1 to 2. When the token of
 * priority 0 comes next to 1 and a byte is offered, then DATA is queued after 1 tick, sent in the 3rd, received in the
 * 4th, READY sent in the 6th, received in the 7th, and after 10 ticks the token comes next to 1 again.
 */
public final class ConnectionEdgeTests {
    private static final CheckHelp CHECK = new CheckHelp("ConnectionEdgeTests");

    /** So many bytes 1, 2, .. were sent, acknowledged and taken, one by one. */
    private static RingBridges after(int bytes) {
        RingBridges x = new RingBridges();
        x.join(0, 1);
        x.join(0, 2);
        x.tick(11);
        CHECK.due("open(1, 2, 0)", x.open(1, 2, 0), 0);
        for (int i = 0; i < bytes; i++) {
            x.offer(0, i + 1);
            x.tick(10);
            CHECK.due("take(0)", x.take(0), i + 1);
        }
        CHECK.due("signal(0)", x.signal(0), 1);
        CHECK.due("at(0)", x.at(0), 0);
        return x;
    }

    private static void offer(RingBridges x, int... bytes) {
        for (int v : bytes) {
            CHECK.yes("offer(0, " + v + ")", x.offer(0, v));
        }
    }

    private static void take(RingBridges x, int... bytes) {
        for (int v : bytes) {
            CHECK.due("take(0)", x.take(0), v);
        }
    }

    private static void con(RingBridges x, int what, int want) {
        CHECK.due("connection(0, " + what + ") after tick " + x.tick(0), x.connection(0, what), want);
    }

    /** FIRST, SENT, the bytes offered, EXPECTED. */
    private static void counts(RingBridges x, int first, int sent, int offered, int expected) {
        con(x, 1, first);
        con(x, 2, sent);
        con(x, 3, offered);
        con(x, 4, expected);
    }

    private static void waits(RingBridges x, int place, int want) {
        CHECK.due("node(0, " + place + ", 1) after tick " + x.tick(0), x.node(0, place, 1), want);
    }

    /** Frames of priority 1 for nobody. */
    private static void fill(RingBridges x, int station, int frames) {
        for (int i = 0; i < frames; i++) {
            CHECK.yes("explore", x.explore(station, 9));
        }
    }

    private static void silentTicks(RingBridges x, int ticks) {
        for (int i = 0; i < ticks; i++) {
            x.tick(1);
            x.damage(0);
        }
    }

    private static void connectionNumbers() {
        CHECK.part("CONNECTIONS 0 .. 3: none at -1 and 4");
        RingBridges x = after(0);
        for (int c = 1; c <= 3; c++) {
            CHECK.due("open(2, 1, 3)", x.open(2, 1, 3), c);
        }
        CHECK.due("open(2, 1, 3)", x.open(2, 1, 3), -3);
        for (int c = 0; c <= 3; c++) {
            CHECK.yes("offer", x.offer(c, 40 + c));
        }
        x.tick(60);
        for (int c = 0; c <= 3; c++) {
            CHECK.due("take", x.take(c), 40 + c);
        }
        int[] none = {-1, 4};
        for (int c : none) {
            CHECK.no("offer", x.offer(c, 1));
            CHECK.due("take", x.take(c), -1);
            CHECK.no("close", x.close(c));
            for (int what = 0; what <= 7; what++) {
                CHECK.due("connection", x.connection(c, what), -1);
            }
        }
        CHECK.yes("close(3)", x.close(3));
        CHECK.no("close(3)", x.close(3));

        CHECK.part("19 what is 0 .. 7; of a FREE one only 0");
        CHECK.due("connection(0, -1)", x.connection(0, -1), -1);
        CHECK.due("connection(0, 0)", x.connection(0, 0), 1);
        CHECK.due("connection(0, 7)", x.connection(0, 7), 0);
        CHECK.due("connection(0, 8)", x.connection(0, 8), -1);
        CHECK.due("connection(3, 0)", x.connection(3, 0), 0);
        for (int what = -1; what <= 8; what++) {
            if (what != 0) {
                CHECK.due("connection(3, " + what + ")", x.connection(3, what), -1);
            }
        }
    }

    private static void offered() {
        CHECK.part("11 bytes 0 and 255 are good, -1 and 256 are not; the 8th is offered, the 9th is not");
        RingBridges x = after(0);
        CHECK.no("offer(0, -1)", x.offer(0, -1));
        CHECK.no("offer(0, 256)", x.offer(0, 256));
        con(x, 3, 0);
        offer(x, 0, 255, 1, 254);
        con(x, 3, 4);
        offer(x, 2, 253, 3);
        con(x, 3, 7);
        offer(x, 252);
        con(x, 3, 8);
        CHECK.no("offer(0, 7)", x.offer(0, 7));
        con(x, 3, 8);

        CHECK.part("11 when one was acknowledged, one more is offered, and not two");
        x.tick(7);
        con(x, 3, 7);
        offer(x, 77);
        CHECK.no("offer(0, 78)", x.offer(0, 78));
        x.tick(30);
        take(x, 0, 255, 1, 254);
    }

    /** Always as many bytes offered as can be, taken in ones, twos and threes. */
    private static void longOrder() {
        CHECK.part("8 offered and an inbox of 4 again and again: bytes come in order, and none is lost");
        RingBridges x = after(0);
        int given = 0;
        int taken = 0;
        for (int round = 0; round < 40 && taken < 40; round++) {
            while (given < 60 && x.offer(0, given)) {
                given++;
            }
            CHECK.yes("at most 8", x.connection(0, 3) <= 8);
            x.tick(35);
            CHECK.yes("at most 4", x.connection(0, 5) <= 4);
            for (int i = 0; i <= round % 3 && x.connection(0, 5) > 0; i++) {
                CHECK.due("take(0)", x.take(0), taken);
                taken++;
            }
        }
        CHECK.yes("40 bytes", taken >= 40);
        con(x, 0, 1);
        CHECK.yes("FIRST and EXPECTED are no numbers mod 8", x.connection(0, 1) > 39 && x.connection(0, 4) > 39);
    }

    private static void sent() {
        for (int bytes = 0; bytes <= 5; bytes++) {
            CHECK.part("SENT is at most 3: with " + bytes + " bytes offered");
            RingBridges x = after(0);
            for (int i = 0; i < bytes; i++) {
                offer(x, i);
            }
            con(x, 2, 0);
            x.tick(1);
            counts(x, 0, Math.min(3, bytes), bytes, 0);
            waits(x, 0, Math.min(3, bytes));
        }
        for (int waiting = 0; waiting <= 4; waiting++) {
            CHECK.part("SENT grows as long as the queue of a is not full: with " + waiting + " frames waiting there");
            RingBridges x = after(0);
            x.tick(1);
            // The token comes to 2, so that nothing of 1 is sent in this tick.
            fill(x, 1, waiting);
            offer(x, 1, 2, 3, 4);
            x.tick(1);
            int room = Math.min(3, 4 - waiting);
            counts(x, 0, room, 4, 0);
            waits(x, 0, waiting + room);
            con(x, 7, 0);
            x.tick(1);
            // One frame was sent, so that there is room for one more.
            con(x, 2, Math.min(3, room + 1));
        }
    }

    private static void lostData() {
        for (int before = 0; before <= 16; before++) {
            CHECK.part("numbers mod 8: DATA of byte " + before + " is lost, the next one makes AGAIN");
            RingBridges x = after(before);
            offer(x, 91, 92, 93);
            x.tick(3);
            x.damage(0);
            x.tick(5);
            counts(x, before, 3, 3, before);
            waits(x, 1, 1);
            con(x, 5, 0);
            // AGAIN comes; all three are sent again, behind one that waits still.
            x.tick(3);
            counts(x, before, 3, 3, before);
            con(x, 7, 0);
            waits(x, 0, 4);
            x.tick(22);
            counts(x, before + 3, 0, 0, before + 3);
            take(x, 91, 92, 93, -1);
        }
    }

    private static void lostReady() {
        for (int before = 0; before <= 9; before++) {
            CHECK.part("numbers mod 8: READY of byte " + before + " is lost; it is sent again, not accepted, READY comes");
            RingBridges x = after(before);
            offer(x, 91);
            x.tick(6);
            x.damage(0);
            x.tick(1);
            counts(x, before, 1, 1, before + 1);
            x.tick(53);
            con(x, 7, 59);
            con(x, 6, 0);
            waits(x, 0, 0);
            x.tick(1);
            con(x, 7, 0);
            con(x, 6, 1);
            waits(x, 0, 1);
            x.tick(3);
            con(x, 5, 1);
            waits(x, 1, 1);
            counts(x, before, 1, 1, before + 1);
            x.tick(3);
            counts(x, before + 1, 0, 0, before + 1);
            con(x, 6, 0);
            take(x, 91, -1);

            CHECK.part("DATA that is 1 back makes READY, not AGAIN: what was sent behind it is not sent again");
            RingBridges y = after(before);
            offer(y, 91);
            y.tick(6);
            y.damage(0);
            y.tick(54);
            offer(y, 92);
            y.tick(1);
            con(y, 6, 1);
            counts(y, before, 2, 2, before + 1);
            waits(y, 0, 2);
            y.tick(6);
            counts(y, before + 1, 1, 1, before + 1);
            waits(y, 0, 1);
            con(y, 7, 1);
        }
    }

    private static void severalAtOnce() {
        for (int before = 0; before <= 8; before++) {
            CHECK.part("READY with k 2 after " + before + " bytes");
            RingBridges x = after(before);
            offer(x, 91, 92, 93);
            x.tick(6);
            x.damage(0);
            x.tick(6);
            counts(x, before, 3, 3, before + 2);
            con(x, 7, 11);
            x.tick(1);
            counts(x, before + 2, 1, 1, before + 2);
            con(x, 7, 1);

            CHECK.part("READY with k 3, after DATA that are 3, 2 and 1 back, after " + before + " bytes");
            RingBridges y = after(before);
            offer(y, 91, 92, 93);
            for (int i = 0; i < 3; i++) {
                y.tick(6);
                y.damage(0);
            }
            y.tick(1);
            counts(y, before, 3, 3, before + 3);
            y.tick(42);
            con(y, 6, 1);
            counts(y, before, 3, 3, before + 3);
            y.tick(3);
            waits(y, 1, 1);
            y.tick(3);
            counts(y, before + 3, 0, 0, before + 3);
            con(y, 6, 0);
            con(y, 7, 0);
            // Each of the other two makes a READY as well.
            y.tick(3);
            waits(y, 1, 1);
            y.tick(6);
            waits(y, 1, 1);
            y.tick(20);
            counts(y, before + 3, 0, 0, before + 3);
            take(y, 91, 92, 93, -1);
        }
    }

    private static void againAcknowledges() {
        for (int before = 0; before <= 8; before++) {
            CHECK.part("AGAIN with k 1 after " + before + " bytes: one is acknowledged, SENT is 0, two are sent again");
            RingBridges x = after(before);
            offer(x, 91, 92, 93);
            x.tick(6);
            x.damage(0);
            x.tick(3);
            x.damage(0);
            x.tick(5);
            counts(x, before, 3, 3, before + 1);
            waits(x, 0, 0);
            waits(x, 1, 1);
            x.tick(3);
            counts(x, before + 1, 2, 2, before + 1);
            con(x, 7, 0);
            waits(x, 0, 2);
            x.tick(20);
            counts(x, before + 3, 0, 0, before + 3);
            take(x, 91, 92, 93, -1);
        }
    }

    private static void busyAcknowledges() {
        for (int before = 0; before <= 8; before++) {
            CHECK.part("an INBOX of 4 after " + before + " bytes: the 4th is accepted, the 5th makes BUSY, here with k 1");
            RingBridges x = after(before);
            offer(x, 91, 92, 93);
            x.tick(28);
            counts(x, before + 3, 0, 0, before + 3);
            con(x, 5, 3);
            offer(x, 94, 95);
            x.tick(6);
            con(x, 5, 4);
            x.damage(0);
            x.tick(6);
            con(x, 5, 4);
            con(x, 7, 11);
            counts(x, before + 3, 2, 2, before + 4);
            x.tick(1);
            counts(x, before + 4, 1, 1, before + 4);
            con(x, 7, 101);

            CHECK.part("WAITING: nothing is sent, although there are bytes and room");
            offer(x, 96, 97);
            x.tick(10);
            con(x, 2, 1);
            con(x, 7, 111);
            waits(x, 0, 0);

            CHECK.part("12 one byte taken: READY, and with k 0 the TIMER goes on");
            take(x, 91);
            waits(x, 1, 1);
            take(x, 92);
            waits(x, 1, 1);
            x.tick(4);
            CHECK.yes("not WAITING", x.connection(0, 7) < 100);
            con(x, 2, 3);
            x.tick(120);
            counts(x, before + 6, 1, 1, before + 6);
            take(x, 93, 94, 95, 96);
            x.tick(120);
            take(x, 97, -1);
        }
    }

    private static void tooFar() {
        CHECK.part("READY with k 1, greater than SENT 0: nothing");
        RingBridges x = new RingBridges();
        x.join(0, 2);
        x.join(0, 1);
        x.tick(10);
        CHECK.due("open(2, 1, 0)", x.open(2, 1, 0), 0);
        offer(x, 5);
        x.tick(4);
        waits(x, 1, 1);
        x.damage(0);
        // READY waits at b as long as there is SILENCE.
        silentTicks(x, 56);
        con(x, 7, 59);
        fill(x, 2, 4);
        silentTicks(x, 1);
        con(x, 6, 1);
        counts(x, 0, 0, 1, 1);
        for (int i = 0; i < 20 && x.signal(0) != 1; i++) {
            x.tick(1);
        }
        CHECK.due("at(0)", x.at(0), 1);
        x.tick(1);
        CHECK.due("signal(0)", x.signal(0), 2);
        waits(x, 1, 0);
        x.tick(1);
        CHECK.due("signal(0)", x.signal(0), 2 + 32 + 128 + 512);
        counts(x, 0, 0, 1, 1);
        con(x, 6, 1);
        con(x, 7, 0);
        x.tick(60);
        counts(x, 1, 0, 0, 1);
        con(x, 6, 0);
        take(x, 5, -1);
    }

    private static void waitingWithNothingSent() {
        CHECK.part("BUSY with SENT 0: WAITING, and the TIMER counts although nothing was sent");
        RingBridges x = new RingBridges();
        x.join(0, 2);
        x.join(0, 1);
        x.tick(10);
        CHECK.due("open(2, 1, 0)", x.open(2, 1, 0), 0);
        offer(x, 1, 2, 3, 4);
        x.tick(40);
        counts(x, 4, 0, 0, 4);
        con(x, 5, 4);
        offer(x, 5);
        for (int i = 0; i < 9 && x.node(0, 1, 1) == 0; i++) {
            x.tick(1);
        }
        // BUSY waits at b as long as there is SILENCE; the token would be damaged before b gets it.
        waits(x, 1, 1);
        x.tick(1);
        x.damage(0);
        silentTicks(x, 59 - x.connection(0, 7));
        con(x, 7, 59);
        fill(x, 2, 4);
        silentTicks(x, 1);
        con(x, 6, 1);
        con(x, 2, 0);
        con(x, 7, 0);
        for (int i = 0; i < 20 && x.signal(0) != 1; i++) {
            x.tick(1);
        }
        CHECK.due("at(0)", x.at(0), 1);
        x.tick(2);
        counts(x, 4, 0, 1, 4);
        con(x, 7, 101);
        x.tick(58);
        counts(x, 4, 0, 1, 4);
        con(x, 7, 159);
        con(x, 6, 1);
        waits(x, 0, 0);
        x.tick(1);
        con(x, 7, 0);
        con(x, 6, 2);
        con(x, 2, 1);
        waits(x, 0, 1);
    }

    private static void answersDropped() {
        for (int waiting = 3; waiting <= 4; waiting++) {
            CHECK.part("READY is queued when 3 wait at b, dropped when 4 wait; the byte is accepted: " + waiting);
            RingBridges x = after(0);
            offer(x, 5);
            x.tick(3);
            fill(x, 2, waiting);
            x.tick(1);
            counts(x, 0, 1, 1, 1);
            con(x, 5, 1);
            waits(x, 1, 4);
            x.tick(40);
            con(x, 1, waiting == 3 ? 1 : 0);
            x.tick(40);
            counts(x, 1, 0, 0, 1);

            CHECK.part("AGAIN is queued when 3 wait at b, dropped when 4 wait, but b is COMPLAINING: " + waiting);
            RingBridges y = after(0);
            offer(y, 5, 6, 7);
            y.tick(3);
            y.damage(0);
            y.tick(4);
            fill(y, 2, waiting);
            y.tick(1);
            waits(y, 1, 4);
            counts(y, 0, 3, 3, 0);
            con(y, 7, 7);
            y.tick(40);
            // With AGAIN all bytes were sent again; without it nothing came since, and the TIMER goes on.
            con(y, 4, waiting == 3 ? 3 : 0);
            CHECK.yes("TIMER", waiting == 3 || y.connection(0, 7) == 47);
            y.tick(100);
            take(y, 5, 6, 7, -1);

            CHECK.part("BUSY is queued when 3 wait at b, dropped when 4 wait, but b is PUTTING OFF: " + waiting);
            RingBridges z = after(0);
            offer(z, 1, 2, 3, 4, 5);
            z.tick(27);
            CHECK.due("signal(0)", z.signal(0), 2);
            fill(z, 2, waiting);
            z.tick(1);
            CHECK.due("signal(0)", z.signal(0), 2 + 32 + 128 + 512);
            con(z, 5, 4);
            waits(z, 1, 4);
            z.tick(30);
            waits(z, 1, 0);
            CHECK.due("WAITING", z.connection(0, 7) / 100, waiting == 3 ? 1 : 0);
            take(z, 1);
            waits(z, 1, 1);
            take(z, 2);
            waits(z, 1, 1);
        }
    }

    private static void takeWithQueue() {
        for (int waiting = 3; waiting <= 4; waiting++) {
            CHECK.part("12 PUTTING OFF ends when 3 wait at b, not when 4 wait: " + waiting);
            RingBridges x = after(0);
            offer(x, 1, 2, 3, 4, 5);
            x.tick(40);
            CHECK.yes("WAITING", x.connection(0, 7) >= 100);
            fill(x, 2, waiting);
            take(x, 1);
            waits(x, 1, 4);
            x.tick(30);
            waits(x, 1, 0);
            CHECK.due("WAITING", x.connection(0, 7) / 100, waiting == 3 ? 0 : 1);
            take(x, 2);
            waits(x, 1, waiting == 3 ? 0 : 1);
        }
        CHECK.part("12 not PUTTING OFF: a byte is taken and nothing is queued");
        RingBridges y = after(0);
        offer(y, 1, 2, 3, 4);
        y.tick(40);
        con(y, 5, 4);
        take(y, 1);
        waits(y, 1, 0);
        con(y, 5, 3);
        take(y, 2, 3, 4);
        con(y, 5, 0);
        take(y, -1, -1);
        waits(y, 1, 0);
        con(y, 4, 4);
    }

    private static void timer() {
        CHECK.part("the TIMER is 0 while nothing was sent, and counts from the tick after");
        RingBridges x = after(0);
        x.tick(70);
        con(x, 7, 0);
        con(x, 6, 0);
        x.damage(0);
        offer(x, 1);
        silentTicks(x, 1);
        con(x, 7, 0);
        con(x, 2, 1);

        CHECK.part("the TIMER at 59 does nothing, at 60 TRIES grows, and DATA is queued in the same tick");
        for (int tries = 1; tries <= 3; tries++) {
            silentTicks(x, 59);
            con(x, 7, 59);
            con(x, 6, tries - 1);
            waits(x, 0, tries);
            silentTicks(x, 1);
            con(x, 7, 0);
            con(x, 6, tries);
            con(x, 0, 1);
            con(x, 2, 1);
            waits(x, 0, tries + 1);
        }

        CHECK.part("TRIES 3 is still OPEN; a byte that is acknowledged makes TRIES and the TIMER 0");
        x.tick(40);
        counts(x, 1, 0, 0, 1);
        con(x, 6, 0);
        con(x, 7, 0);
        con(x, 0, 1);
        take(x, 1, -1);
    }

    private static void failed() {
        CHECK.part("12, 19 of a FAILED one the counts can be looked at");
        RingBridges y = after(2);
        offer(y, 1, 2, 3, 4, 5);
        y.tick(40);
        y.leave(1);
        con(y, 0, 2);
        counts(y, 6, 1, 1, 6);
        con(y, 5, 4);
        CHECK.yes("WAITING", y.connection(0, 7) >= 100);
        int timer = y.connection(0, 7);
        y.tick(100);
        con(y, 7, timer);
        con(y, 6, 0);
        take(y, 1, 2, 3, 4, -1);
        waits(y, 0, 0);
        CHECK.no("offer(0, 1)", y.offer(0, 1));
        CHECK.yes("close(0)", y.close(0));
        CHECK.no("close(0)", y.close(0));
    }

    private static void failedFrames() {
        CHECK.part("DATA of a FAILED one is COPIED, and has no effect");
        RingBridges x = after(0);
        x.join(0, 3);
        // 3 opens to 2 and goes while its DATA is under way.
        CHECK.due("open(3, 2, 0)", x.open(3, 2, 0), 1);
        x.offer(1, 9);
        x.tick(2);
        CHECK.due("node(0, 2, 1)", x.node(0, 2, 1), 1);
        for (int i = 0; i < 6 && x.count(0, 1) == 0; i++) {
            x.tick(1);
        }
        CHECK.due("signal(0)", x.signal(0), 2);
        x.leave(3);
        CHECK.due("connection(1, 0)", x.connection(1, 0), 2);
        x.tick(3);
        CHECK.due("COPIED", x.signal(0) & 512, 512);
        CHECK.due("connection(1, 4)", x.connection(1, 4), 0);
        CHECK.due("connection(1, 5)", x.connection(1, 5), 0);
        waits(x, 1, 0);

        CHECK.part("READY of one that was closed, or closed and opened again, is COPIED, and has no effect");
        for (int again = 0; again <= 1; again++) {
            RingBridges y = after(0);
            offer(y, 5);
            y.tick(6);
            CHECK.due("signal(0)", y.signal(0), 2 + 16);
            CHECK.yes("close(0)", y.close(0));
            if (again == 1) {
                CHECK.due("open(1, 2, 0)", y.open(1, 2, 0), 0);
                offer(y, 6);
            }
            y.tick(1);
            CHECK.due("signal(0)", y.signal(0), 2 + 16 + 512);
            con(y, 0, again);
            con(y, 1, again == 1 ? 0 : -1);
            con(y, 3, again == 1 ? 1 : -1);
            y.tick(20);
            con(y, 1, again == 1 ? 1 : -1);
            take(y, again == 1 ? 6 : -1);
        }
    }

    /** Four times without an answer; the silence lasts longer than all of them. */
    private static void fourTries() {
        CHECK.part("TRIES 4 makes it FAILED, in the tick in which the TIMER is 60 for the fourth time");
        RingBridges x = new RingBridges();
        x.join(0, 1);
        x.join(1, 2);
        x.bridge(0, 0, 1);
        x.tick(11);
        x.explore(1, 2);
        x.tick(30);
        CHECK.due("open(1, 2, 0)", x.open(1, 2, 0), 0);
        // Without the bridge DATA is LOST on ring 0, and the queue of 1 is empty each time.
        x.leave(10);
        offer(x, 1, 2);
        x.tick(1);
        counts(x, 0, 2, 2, 0);
        for (int tries = 1; tries <= 3; tries++) {
            x.tick(59);
            con(x, 7, 59);
            con(x, 6, tries - 1);
            x.tick(1);
            con(x, 7, 0);
            con(x, 6, tries);
            con(x, 0, 1);
            con(x, 2, 2);
        }
        x.tick(59);
        con(x, 0, 1);
        con(x, 6, 3);
        con(x, 7, 59);
        waits(x, 0, 0);
        int lost = x.count(0, 2);
        x.tick(1);
        con(x, 0, 2);
        con(x, 6, 4);
        con(x, 7, 0);
        counts(x, 0, 0, 2, 0);
        waits(x, 0, 0);
        x.tick(130);
        con(x, 6, 4);
        con(x, 7, 0);
        CHECK.due("count(0, 2)", x.count(0, 2), lost);
        CHECK.no("offer(0, 1)", x.offer(0, 1));
        CHECK.due("take(0)", x.take(0), -1);
        CHECK.yes("close(0)", x.close(0));
        con(x, 0, 0);

        CHECK.part("9 opened again after four tries, TRIES is 0");
        CHECK.due("open(1, 2, 0)", x.open(1, 2, 0), 0);
        for (int what = 1; what <= 7; what++) {
            con(x, what, 0);
        }
    }

    private static void otherKinds() {
        CHECK.part("EXPLORE and REPLY between a and b do nothing to their connection");
        RingBridges x = after(0);
        offer(x, 1, 2, 3, 4, 5);
        x.tick(33);
        con(x, 7, 103);
        for (int i = 1; i <= 5; i++) {
            x.explore(1, 2);
            x.tick(10);
            con(x, 7, 103 + 10 * i);
            counts(x, 4, 1, 1, 4);
            con(x, 5, 4);
        }
        CHECK.due("route(1, 2)", x.route(1, 2), 0);
        CHECK.due("count(0, 1)", x.count(0, 1), 10 + 10);
    }

    private static void freeStaysFree() {
        CHECK.part("4 OPEN connections of a station that goes are FAILED, FREE ones stay FREE, FAILED ones FAILED");
        RingBridges x = after(0);
        x.join(0, 3);
        CHECK.due("open(2, 1, 0)", x.open(2, 1, 0), 1);
        CHECK.due("open(2, 3, 0)", x.open(2, 3, 0), 2);
        CHECK.due("open(3, 1, 0)", x.open(3, 1, 0), 3);
        x.close(1);
        x.leave(3);
        int[] due = {1, 0, 2, 2};
        for (int c = 0; c <= 3; c++) {
            CHECK.due("connection(" + c + ", 0)", x.connection(c, 0), due[c]);
        }
        x.leave(2);
        due[0] = 2;
        for (int c = 0; c <= 3; c++) {
            CHECK.due("connection(" + c + ", 0)", x.connection(c, 0), due[c]);
        }
        x.leave(1);
        for (int c = 0; c <= 3; c++) {
            CHECK.due("connection(" + c + ", 0)", x.connection(c, 0), due[c]);
        }
    }

    private static void reopened() {
        CHECK.part("9 a connection that is opened again has nothing of the earlier opening");
        RingBridges x = after(9);
        offer(x, 1, 2, 3, 4, 5);
        x.tick(40);
        con(x, 5, 4);
        CHECK.yes("WAITING", x.connection(0, 7) >= 100);
        CHECK.yes("close(0)", x.close(0));
        CHECK.due("take(0)", x.take(0), -1);
        CHECK.due("open(1, 2, 3)", x.open(1, 2, 3), 0);
        con(x, 0, 1);
        for (int what = 1; what <= 7; what++) {
            con(x, what, 0);
        }
        take(x, -1);
        waits(x, 1, 0);
        offer(x, 81, 82, 83, 84, 85, 86, 87, 88);
        CHECK.no("offer(0, 89)", x.offer(0, 89));
        x.tick(40);
        take(x, 81, 82, 83, 84);

        CHECK.part("9 nor is b COMPLAINING or PUTTING OFF from then");
        RingBridges y = after(0);
        offer(y, 1, 2, 3);
        y.tick(3);
        y.damage(0);
        y.tick(5);
        y.close(0);
        y.open(1, 2, 0);
        y.tick(30);
        waits(y, 0, 0);
        for (int i = 0; i < 5 && y.at(0) != 0; i++) {
            y.tick(1);
        }
        CHECK.due("at(0)", y.at(0), 0);
        offer(y, 4, 5, 6);
        y.tick(3);
        y.damage(0);
        y.tick(5);
        waits(y, 1, 1);
        y.tick(40);
        take(y, 4, 5, 6, -1);
        RingBridges z = after(0);
        offer(z, 1, 2, 3, 4, 5);
        z.tick(40);
        z.close(0);
        z.open(1, 2, 0);
        offer(z, 6);
        z.tick(20);
        waits(z, 1, 0);
        take(z, 6);
        waits(z, 1, 0);
    }

    public static void main(String[] args) {
        connectionNumbers();
        offered();
        longOrder();
        sent();
        lostData();
        lostReady();
        severalAtOnce();
        againAcknowledges();
        busyAcknowledges();
        tooFar();
        waitingWithNothingSent();
        answersDropped();
        takeWithQueue();
        timer();
        failed();
        failedFrames();
        fourTries();
        otherKinds();
        freeStaysFree();
        reopened();
        CHECK.end();
    }
}
