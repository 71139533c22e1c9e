import java.util.Map;
import java.util.TreeMap;

/** Long runs of mixed calls, answered by the program and by ModelHelp; every look at the state is compared too. */
public final class ModelRuns {
    private static final int RUNS = 1500;
    private static final int CALLS = 512;

    private static int wrong = 0;
    private static long seed;

    // A fixed row of numbers, so that each run of the tests makes the same calls.
    private static int pick(int bound) {
        seed = seed * 6364136223846793005L + 1442695040888963407L;
        return (int) ((seed >>> 33) % bound);
    }

    private static int near(int least, int most) {
        return least - 1 + pick(most - least + 3);
    }

    private static boolean same(int run, int call, String what, long got, long due) {
        if (got == due) {
            return true;
        }
        wrong++;
        System.out.println("run " + run + " call " + call + ": " + what + " answered " + got + ", due is " + due);
        return false;
    }

    private static long bit(boolean b) {
        return b ? 1 : 0;
    }

    private static boolean sameState(int run, int call, String after, RingBridges x, ModelHelp m) {
        boolean ok = true;
        for (int r = -1; r <= 3; r++) {
            ok &= same(run, call, after + " signal(" + r + ")", x.signal(r), m.signal(r));
            ok &= same(run, call, after + " at(" + r + ")", x.at(r), m.at(r));
            ok &= same(run, call, after + " monitor(" + r + ")", x.monitor(r), m.monitor(r));
            for (int what = -1; what <= 3; what++) {
                ok &= same(run, call, after + " count(" + r + ", " + what + ")", x.count(r, what), m.count(r, what));
                for (int p = -1; p <= 5; p++) {
                    String name = after + " node(" + r + ", " + p + ", " + what + ")";
                    ok &= same(run, call, name, x.node(r, p, what), m.node(r, p, what));
                }
            }
        }
        for (int c = -1; c <= 4; c++) {
            for (int what = -1; what <= 8; what++) {
                String name = after + " connection(" + c + ", " + what + ")";
                ok &= same(run, call, name, x.connection(c, what), m.connection(c, what));
            }
        }
        for (int a = 0; a <= 10; a++) {
            for (int b = 0; b <= 10; b++) {
                ok &= same(run, call, after + " route(" + a + ", " + b + ")", x.route(a, b), m.route(a, b));
            }
        }
        return ok;
    }

    private static boolean topology(int run, int call, RingBridges x, ModelHelp m) {
        int u = near(0, 2);
        int v = near(0, 2);
        switch (pick(4)) {
            case 0:
            case 1: {
                int address = near(1, 9);
                return same(run, call, "join(" + u + ", " + address + ")", bit(x.join(u, address)), bit(m.join(u, address)));
            }
            case 2: {
                int k = near(0, 2);
                String name = "bridge(" + k + ", " + u + ", " + v + ")";
                return same(run, call, name, bit(x.bridge(k, u, v)), bit(m.bridge(k, u, v)));
            }
            default: {
                int address = near(1, 12);
                return same(run, call, "leave(" + address + ")", bit(x.leave(address)), bit(m.leave(address)));
            }
        }
    }

    private static boolean ways(int run, int call, RingBridges x, ModelHelp m) {
        int a = near(1, 9);
        int b = near(1, 9);
        switch (pick(8)) {
            case 0:
                return same(run, call, "forget(" + a + ", " + b + ")", bit(x.forget(a, b)), bit(m.forget(a, b)));
            case 1: {
                int r = near(0, 2);
                return same(run, call, "damage(" + r + ")", bit(x.damage(r)), bit(m.damage(r)));
            }
            case 2:
            case 3: {
                int p = near(0, 3);
                String name = "open(" + a + ", " + b + ", " + p + ")";
                return same(run, call, name, x.open(a, b, p), m.open(a, b, p));
            }
            default:
                return same(run, call, "explore(" + a + ", " + b + ")", bit(x.explore(a, b)), bit(m.explore(a, b)));
        }
    }

    private static boolean bytes(int run, int call, RingBridges x, ModelHelp m, int takes) {
        int c = near(0, 3);
        if (pick(60) == 0) {
            return same(run, call, "close(" + c + ")", bit(x.close(c)), bit(m.close(c)));
        }
        if (pick(10) < takes) {
            return same(run, call, "take(" + c + ")", x.take(c), m.take(c));
        }
        int v = pick(20) == 0 ? (pick(2) == 0 ? -1 : 256) : pick(256);
        return same(run, call, "offer(" + c + ", " + v + ")", bit(x.offer(c, v)), bit(m.offer(c, v)));
    }

    private static boolean time(int run, int call, RingBridges x, ModelHelp m, int longest) {
        int n = pick(100) == 0 ? (pick(2) == 0 ? -1 : 201) : pick(12) == 0 ? pick(longest) : pick(4);
        return same(run, call, "tick(" + n + ")", x.tick(n), m.tick(n));
    }

    private static void oneRun(int run, Map<String, Integer> met) {
        seed = run * 7919L + 17;
        RingBridges x = new RingBridges();
        ModelHelp m = new ModelHelp(met);
        int takes = pick(6);
        int change = pick(3) == 0 ? 40 : 3 + pick(8);
        int longest = pick(2) == 0 ? 201 : 30;
        for (int call = 0; call < CALLS; call++) {
            boolean ok;
            int dice = pick(100);
            if (call < 18 || dice < change / 3) {
                ok = topology(run, call, x, m);
            } else if (dice < 25) {
                ok = ways(run, call, x, m);
            } else if (dice < 60) {
                ok = bytes(run, call, x, m, takes);
            } else {
                ok = time(run, call, x, m, longest);
            }
            if (!ok || !sameState(run, call, "after it", x, m)) {
                return;
            }
        }
    }

    public static void main(String[] args) {
        Map<String, Integer> met = new TreeMap<>();
        for (int run = 1; run <= RUNS && wrong < 20; run++) {
            oneRun(run, met);
        }
        if (args.length > 0) {
            met.forEach((what, many) -> System.out.println(many + "  " + what));
        }
        System.out.println(wrong == 0 ? "the program and the model agree" : wrong + " answers are not as due");
        if (wrong != 0) {
            System.exit(1);
        }
    }
}
