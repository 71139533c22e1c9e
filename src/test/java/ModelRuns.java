import java.util.ArrayList;
import java.util.List;
import java.util.Map;
import java.util.TreeMap;

/**
 * Runs of mixed calls, answered by the program and by ModelHelp. A run ends after a picked number of calls with a look
 * at the whole state, so that all calls of an object stay below the document's 512.
 */
public final class ModelRuns {
    private static final int RUNS = 6000;
    private static final int LEAST_CALLS = 25;
    private static final int MOST_CALLS = 330;
    private static final int WRONG_LIMIT = 10;

    private static int wrong = 0;
    private static long seed;

    private final int run;
    private final RingBridges x = new RingBridges();
    private final ModelHelp m;
    private final StringBuilder calls = new StringBuilder();
    private int made = 0;
    private boolean agreed = true;
    private int takes;
    private int changes;
    private int longest;

    private ModelRuns(int run, Map<String, Integer> met) {
        this.run = run;
        this.m = new ModelHelp(met);
    }

    // A fixed row of numbers, so that each run of the tests makes the same calls.
    private static int pick(int bound) {
        seed = seed * 6364136223846793005L + 1442695040888963407L;
        return (int) ((seed >>> 33) % bound);
    }

    /** Mostly within the limits, at times one beyond them. */
    private static int near(int least, int most) {
        return pick(12) == 0 ? (pick(2) == 0 ? least - 1 : most + 1) : least + pick(most - least + 1);
    }

    private void same(String call, long got, long due) {
        made++;
        if (got != due) {
            agreed = false;
            wrong++;
            System.out.println("run " + run + ": " + call + " answered " + got + ", due is " + due);
        }
    }

    private void did(String call, long got, long due) {
        calls.append(call).append(" -> ").append(due).append("; ");
        same(call, got, due);
    }

    private static long bit(boolean b) {
        return b ? 1 : 0;
    }

    private int station() {
        List<Integer> there = new ArrayList<>();
        for (ModelHelp.Rg ring : m.rings) {
            for (ModelHelp.Nd node : ring.nodes) {
                if (node.address < 10) {
                    there.add(node.address);
                }
            }
        }
        return there.isEmpty() || pick(12) == 0 ? near(1, 9) : there.get(pick(there.size()));
    }

    private int connection() {
        List<Integer> used = new ArrayList<>();
        for (int c = 0; c < 4; c++) {
            if (m.cons[c] != null) {
                used.add(c);
            }
        }
        return used.isEmpty() || pick(12) == 0 ? near(0, 3) : used.get(pick(used.size()));
    }

    private void join(int r, int address) {
        did("join(" + r + ", " + address + ")", bit(x.join(r, address)), bit(m.join(r, address)));
    }

    private void bridge(int k, int r, int s) {
        did("bridge(" + k + ", " + r + ", " + s + ")", bit(x.bridge(k, r, s)), bit(m.bridge(k, r, s)));
    }

    private void leave(int address) {
        did("leave(" + address + ")", bit(x.leave(address)), bit(m.leave(address)));
    }

    private void damage(int r) {
        did("damage(" + r + ")", bit(x.damage(r)), bit(m.damage(r)));
    }

    private void explore(int a, int b) {
        did("explore(" + a + ", " + b + ")", bit(x.explore(a, b)), bit(m.explore(a, b)));
    }

    private void forget(int a, int b) {
        did("forget(" + a + ", " + b + ")", bit(x.forget(a, b)), bit(m.forget(a, b)));
    }

    private void open(int a, int b, int priority) {
        did("open(" + a + ", " + b + ", " + priority + ")", x.open(a, b, priority), m.open(a, b, priority));
    }

    private void close(int c) {
        did("close(" + c + ")", bit(x.close(c)), bit(m.close(c)));
    }

    private void offer(int c, int v) {
        did("offer(" + c + ", " + v + ")", bit(x.offer(c, v)), bit(m.offer(c, v)));
    }

    private void take(int c) {
        did("take(" + c + ")", x.take(c), m.take(c));
    }

    private void tick(int n) {
        did("tick(" + n + ")", x.tick(n), m.tick(n));
    }

    private void begin() {
        takes = pick(8);
        changes = pick(3) == 0 ? 12 : 1 + pick(3);
        longest = pick(2) == 0 ? 201 : 30;
        int stations = 2 + pick(8);
        int rings = 1 + pick(3);
        for (int i = 0; i < stations; i++) {
            join(pick(rings), near(1, 9));
        }
        int bridges = rings == 1 ? 0 : 1 + pick(4);
        for (int i = 0; i < bridges; i++) {
            bridge(near(0, 2), near(0, 2), near(0, 2));
        }
        if (pick(3) != 0) {
            tick(20 + pick(20));
            explore(station(), station());
            explore(station(), station());
            tick(60);
        }
    }

    private void changeRings() {
        switch (pick(4)) {
            case 0:
            case 1:
                join(near(0, 2), near(1, 9));
                break;
            case 2:
                bridge(near(0, 2), near(0, 2), near(0, 2));
                break;
            default:
                leave(pick(3) == 0 ? near(10, 12) : station());
                break;
        }
    }

    private int knownPair() {
        List<Integer> pairs = new ArrayList<>(m.routes.keySet());
        return pairs.isEmpty() ? 10 * near(1, 9) + 1 : pairs.get(pick(pairs.size()));
    }

    private void useWays() {
        int pair = knownPair();
        switch (pick(12)) {
            case 0:
                forget(pair / 10, pair % 10);
                break;
            case 1:
            case 2:
                damage(near(0, 2));
                break;
            case 3:
            case 4:
                open(station(), station(), near(0, 3));
                break;
            case 5:
            case 6:
                open(pair / 10, pair % 10, near(0, 3));
                break;
            default:
                explore(station(), pick(8) == 0 ? near(1, 9) : station());
                break;
        }
    }

    private void useBytes() {
        if (pick(70) == 0) {
            close(near(0, 3));
        } else if (pick(12) < takes) {
            take(connection());
        } else {
            offer(connection(), pick(25) == 0 ? (pick(2) == 0 ? -1 : 256) : pick(256));
        }
    }

    private void useTime() {
        if (pick(100) == 0) {
            tick(pick(2) == 0 ? -1 : 201);
        } else {
            tick(pick(12) == 0 ? pick(longest) : pick(5));
        }
    }

    private void oneCall() {
        int dice = pick(100);
        if (dice < changes) {
            changeRings();
        } else if (dice < 25) {
            useWays();
        } else if (dice < 60) {
            useBytes();
        } else {
            useTime();
        }
    }

    private void lookAtRings() {
        for (int r = 0; r < 3; r++) {
            same("signal(" + r + ")", x.signal(r), m.signal(r));
            same("at(" + r + ")", x.at(r), m.at(r));
            same("monitor(" + r + ")", x.monitor(r), m.monitor(r));
            for (int what = 0; what < 3; what++) {
                same("count(" + r + ", " + what + ")", x.count(r, what), m.count(r, what));
                for (int p = 0; p < 5; p++) {
                    same("node(" + r + ", " + p + ", " + what + ")", x.node(r, p, what), m.node(r, p, what));
                }
            }
        }
    }

    private void lookAtConnections() {
        for (int c = 0; c < 4; c++) {
            for (int what = 0; what < 8; what++) {
                same("connection(" + c + ", " + what + ")", x.connection(c, what), m.connection(c, what));
            }
        }
        for (int a = 1; a < 10; a++) {
            for (int b = 1; b < 10; b++) {
                if (a != b) {
                    same("route(" + a + ", " + b + ")", x.route(a, b), m.route(a, b));
                }
            }
        }
    }

    private void go() {
        begin();
        int most = LEAST_CALLS + pick(MOST_CALLS - LEAST_CALLS);
        while (made < most && agreed) {
            oneCall();
        }
        lookAtRings();
        lookAtConnections();
        if (made > 512) {
            throw new IllegalStateException("a run has more calls than the document allows");
        }
        if (!agreed) {
            System.out.println("  its calls with the answers due: " + calls);
        }
    }

    public static void main(String[] args) {
        CheckHelp.watch("ModelRuns");
        Map<String, Integer> met = new TreeMap<>();
        for (int run = 1; run <= RUNS && wrong < WRONG_LIMIT; run++) {
            seed = run * 7919L + 17;
            new ModelRuns(run, met).go();
        }
        if (args.length > 0) {
            met.forEach((what, many) -> System.out.println(many + "  " + what));
        }
        System.out.println(wrong == 0 ? "the program and the model agree" : wrong + " answers are not as due");
        if (wrong != 0) {
            System.exit(1);
        }
    }
}
