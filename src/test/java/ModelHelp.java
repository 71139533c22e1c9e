import java.util.ArrayList;
import java.util.Collections;
import java.util.HashMap;
import java.util.HashSet;
import java.util.List;
import java.util.Map;
import java.util.Set;
import java.util.TreeMap;

/**
 * A second reading of the document, held in another way than the program: lists of new objects, AT and the monitor as
 * nodes, routes as lists. ModelRuns lets both answer the same calls. It also notes which sentences were met.
 */
final class ModelHelp {
    enum Kind { EXPLORE, REPLY, DATA, READY, AGAIN, BUSY }

    enum Sort { SILENCE, TOKEN, FRAME, CLAIM, PURGE }

    enum State { FREE, OPEN, FAILED }

    static final class Fr {
        Kind kind;
        int own;
        int from;
        int to;
        List<Integer> route = new ArrayList<>();
        List<Integer> path = new ArrayList<>();
        Set<Integer> rings = new HashSet<>();
        Con con;
        int number;
        int value;

        Fr(Kind kind, int own, int from, int to) {
            this.kind = kind;
            this.own = own;
            this.from = from;
            this.to = to;
        }

        Fr again() {
            Fr f = new Fr(kind, own, from, to);
            f.route.addAll(route);
            f.path.addAll(path);
            f.rings.addAll(rings);
            f.con = con;
            f.number = number;
            f.value = value;
            return f;
        }
    }

    static final class Nd {
        final int address;
        final List<Fr> queue = new ArrayList<>();
        final List<int[]> stack = new ArrayList<>();

        Nd(int address) {
            this.address = address;
        }

        boolean full() {
            return queue.size() == 4;
        }

        int wish() {
            return queue.isEmpty() ? -1 : queue.get(0).own;
        }
    }

    static final class Rg {
        final List<Nd> nodes = new ArrayList<>();
        Sort sort = Sort.SILENCE;
        Nd at;
        Nd monitor;
        int quiet;
        int priority;
        int reserved;
        int address;
        boolean seen;
        boolean bad;
        boolean copied;
        Fr frame;
        int[] counts = new int[3];

        Nd find(int address) {
            for (Nd n : nodes) {
                if (n.address == address) {
                    return n;
                }
            }
            return null;
        }

        Nd behind(Nd n) {
            return nodes.get((nodes.indexOf(n) + 1) % nodes.size());
        }
    }

    /** One opening; a new opening of the same number is a new object, so old frames point to the old one. */
    static final class Con {
        State state = State.OPEN;
        int a;
        int b;
        int own;
        List<Integer> route = new ArrayList<>();
        List<Integer> offered = new ArrayList<>();
        int first;
        int sent;
        boolean waiting;
        int timer;
        int tries;
        int expected;
        List<Integer> inbox = new ArrayList<>();
        boolean complaining;
        boolean puttingOff;
    }

    final Rg[] rings = {new Rg(), new Rg(), new Rg()};
    final Con[] cons = new Con[4];
    final Map<Integer, List<Integer>> routes = new HashMap<>();
    final Map<String, Integer> met;
    int ticks;

    ModelHelp(Map<String, Integer> met) {
        this.met = met;
    }

    ModelHelp() {
        this(new TreeMap<>());
    }

    private void meet(String what) {
        met.merge(what, 1, Integer::sum);
    }

    private static boolean ring(int r) {
        return r >= 0 && r <= 2;
    }

    private static boolean address(int a) {
        return 1 <= a && a <= 9;
    }

    private Rg where(int address) {
        for (Rg g : rings) {
            if (g.find(address) != null) {
                return g;
            }
        }
        return null;
    }

    private void queue(Nd n, Fr f) {
        if (n.full()) {
            meet("dropped " + f.kind);
        } else {
            n.queue.add(f);
        }
    }

    boolean join(int r, int address) {
        if (!ring(r) || !address(address) || where(address) != null || rings[r].nodes.size() == 5) {
            return false;
        }
        rings[r].nodes.add(new Nd(address));
        return true;
    }

    boolean bridge(int k, int r, int s) {
        if (k < 0 || k > 2 || where(10 + k) != null || !ring(r) || !ring(s) || r == s) {
            return false;
        }
        if (rings[r].nodes.size() == 5 || rings[s].nodes.size() == 5) {
            return false;
        }
        rings[r].nodes.add(new Nd(10 + k));
        rings[s].nodes.add(new Nd(10 + k));
        return true;
    }

    boolean leave(int address) {
        if (where(address) == null) {
            return false;
        }
        for (Rg g : rings) {
            Nd n = g.find(address);
            if (n != null) {
                remove(g, n);
            }
        }
        if (address(address)) {
            routes.keySet().removeIf(key -> key / 10 == address || key % 10 == address);
            for (Con c : cons) {
                if (c != null && c.state == State.OPEN && (c.a == address || c.b == address)) {
                    c.state = State.FAILED;
                    meet("failed by leave");
                }
            }
        }
        return true;
    }

    private void remove(Rg g, Nd n) {
        if (g.sort != Sort.SILENCE && g.at == n) {
            g.at = g.behind(n);
            meet("AT left");
        }
        g.nodes.remove(n);
        if (g.monitor == n) {
            g.monitor = null;
            meet("monitor left");
        }
        if (g.nodes.isEmpty()) {
            g.sort = Sort.SILENCE;
            g.quiet = 0;
            meet("ring emptied");
        }
        if ((g.sort == Sort.CLAIM || g.sort == Sort.PURGE) && g.address == n.address) {
            meet(g.sort + " left");
            g.sort = Sort.SILENCE;
            g.quiet = 0;
        }
    }

    boolean damage(int r) {
        if (!ring(r) || rings[r].sort == Sort.SILENCE) {
            return false;
        }
        Rg g = rings[r];
        meet("damaged " + g.sort);
        if (g.sort == Sort.FRAME) {
            g.bad = true;
        } else {
            g.sort = Sort.SILENCE;
            g.quiet = 0;
        }
        return true;
    }

    boolean explore(int a, int b) {
        if (!address(a) || where(a) == null || !address(b) || b == a || where(a).find(a).full()) {
            return false;
        }
        Fr f = new Fr(Kind.EXPLORE, 1, a, b);
        for (int r = 0; r < 3; r++) {
            if (rings[r].find(a) != null) {
                f.rings.add(r);
                rings[r].find(a).queue.add(f);
            }
        }
        return true;
    }

    boolean forget(int a, int b) {
        return address(a) && address(b) && routes.remove(10 * a + b) != null;
    }

    int route(int a, int b) {
        List<Integer> path = address(a) && address(b) ? routes.get(10 * a + b) : null;
        if (path == null) {
            return -1;
        }
        int answer = 0;
        int weight = 1;
        for (int k : path) {
            answer += weight * (k + 1);
            weight *= 4;
        }
        return answer;
    }

    int open(int a, int b, int priority) {
        if (!address(a) || !address(b) || where(a) == null || where(b) == null || a == b) {
            return -1;
        }
        if (priority < 0 || priority > 3) {
            return -1;
        }
        List<Integer> way = new ArrayList<>();
        if (where(a) != where(b)) {
            List<Integer> known = routes.get(10 * a + b);
            if (known == null || known.isEmpty()) {
                meet(known == null ? "open without route" : "open with empty route");
                return -2;
            }
            way.addAll(known);
        }
        for (int c = 0; c < 4; c++) {
            if (cons[c] == null) {
                Con con = new Con();
                con.a = a;
                con.b = b;
                con.own = priority;
                con.route = way;
                cons[c] = con;
                meet("open over " + way.size());
                return c;
            }
        }
        return -3;
    }

    private Con con(int c) {
        return c >= 0 && c < 4 ? cons[c] : null;
    }

    boolean close(int c) {
        if (con(c) == null) {
            return false;
        }
        cons[c].state = State.FREE;
        cons[c] = null;
        return true;
    }

    boolean offer(int c, int v) {
        Con con = con(c);
        if (con == null || con.state != State.OPEN || v < 0 || v > 255 || con.offered.size() == 8) {
            return false;
        }
        con.offered.add(v);
        return true;
    }

    int take(int c) {
        Con con = con(c);
        if (con == null || con.inbox.isEmpty()) {
            if (con != null && con.puttingOff) {
                meet("nothing to take while PUTTING OFF");
            }
            return -1;
        }
        int v = con.inbox.remove(0);
        if (con.state == State.FAILED) {
            meet("take of FAILED");
        }
        if (con.state == State.OPEN && con.puttingOff) {
            Nd b = where(con.b).find(con.b);
            if (b.full()) {
                meet("PUTTING OFF stays");
            } else {
                meet("PUTTING OFF ends");
                con.puttingOff = false;
                answer(b, con, Kind.READY);
            }
        }
        return v;
    }

    int tick(int n) {
        if (n >= 0 && n <= 200) {
            for (int i = 0; i < n; i++) {
                oneTick();
            }
        }
        return ticks;
    }

    private void oneTick() {
        ticks++;
        for (Rg g : rings) {
            move(g);
        }
        for (Con con : cons) {
            if (con == null || con.state != State.OPEN) {
                continue;
            }
            if (con.sent != 0 || con.waiting) {
                con.timer++;
            } else {
                con.timer = 0;
            }
            if (con.timer == 60) {
                meet(con.waiting ? "timer while WAITING" : "timer");
                con.tries++;
                con.timer = 0;
                con.sent = 0;
                con.waiting = false;
                if (con.tries == 4) {
                    con.state = State.FAILED;
                    meet("failed by tries");
                }
            }
            if (con.state == State.OPEN && !con.waiting) {
                Nd a = where(con.a).find(con.a);
                while (con.sent < 3 && con.offered.size() > con.sent && !a.full()) {
                    Fr f = new Fr(Kind.DATA, con.own, con.a, con.b);
                    f.route.addAll(con.route);
                    f.con = con;
                    f.number = (con.first + con.sent) % 8;
                    f.value = con.offered.get(con.sent);
                    a.queue.add(f);
                    con.sent++;
                }
            }
        }
    }

    private void move(Rg g) {
        if (g.nodes.isEmpty()) {
            return;
        }
        if (g.sort == Sort.SILENCE) {
            g.quiet++;
            if (g.quiet == 6) {
                g.quiet = 0;
                if (g.monitor != null) {
                    meet("purge out of SILENCE");
                    purge(g);
                } else {
                    g.sort = Sort.CLAIM;
                    g.address = g.nodes.get(0).address;
                    g.at = g.behind(g.nodes.get(0));
                }
            }
            return;
        }
        Nd n = g.at;
        g.at = g.behind(n);
        if (g.sort == Sort.TOKEN) {
            token(g, n);
        } else if (g.sort == Sort.FRAME) {
            frame(g, n);
        } else if (g.sort == Sort.CLAIM) {
            if (n.address == g.address) {
                g.monitor = n;
                purge(g);
            }
            g.address = Math.max(g.address, n.address);
        } else {
            n.stack.clear();
            if (n.address == g.address) {
                g.sort = Sort.TOKEN;
                g.priority = 0;
                g.reserved = 0;
                g.seen = false;
                g.bad = false;
                g.copied = false;
            }
        }
    }

    private void purge(Rg g) {
        g.sort = Sort.PURGE;
        g.address = g.monitor.address;
        g.at = g.behind(g.monitor);
        g.counts[0]++;
    }

    private void token(Rg g, Nd n) {
        if (n == g.monitor && g.priority > 0) {
            if (g.seen) {
                meet("purge of SEEN TOKEN");
                purge(g);
                return;
            }
            g.seen = true;
        }
        if (!n.stack.isEmpty()) {
            int[] top = n.stack.get(n.stack.size() - 1);
            if (top[1] == g.priority) {
                if (g.reserved > top[0]) {
                    meet(g.reserved < g.priority ? "pair lowered" : g.reserved > g.priority ? "pair raised" : "pair kept");
                    top[1] = g.reserved;
                    g.priority = g.reserved;
                    g.reserved = 0;
                } else {
                    meet(g.reserved > 0 ? "pair gone with RESERVED" : "pair gone");
                    n.stack.remove(top);
                    g.priority = top[0];
                }
                g.seen = false;
            } else {
                meet("pair of another priority");
            }
        }
        if (n.wish() >= g.priority) {
            g.frame = n.queue.remove(0);
            g.sort = Sort.FRAME;
            g.reserved = 0;
            g.seen = false;
            g.address = n.address;
            g.counts[1]++;
        } else {
            g.reserved = Math.max(g.reserved, n.wish());
        }
    }

    private void frame(Rg g, Nd n) {
        if (n.address == g.address) {
            if (!g.copied) {
                g.counts[2]++;
            }
            int m = Math.max(g.reserved, n.wish());
            g.sort = Sort.TOKEN;
            g.seen = false;
            g.bad = false;
            g.copied = false;
            g.reserved = m;
            if (m > g.priority) {
                n.stack.add(new int[] {g.priority, m});
                meet("stack of " + n.stack.size());
                g.priority = m;
                g.reserved = 0;
            }
            return;
        }
        if (n == g.monitor) {
            if (g.seen) {
                meet("purge of SEEN FRAME");
                purge(g);
                return;
            }
            g.seen = true;
        }
        if (!g.bad) {
            if (n.address < 10) {
                station(g, n);
            } else {
                port(g, n);
            }
        }
        g.reserved = Math.max(g.reserved, n.wish());
    }

    private void port(Rg g, Nd n) {
        int beyond = -1;
        for (int r = 0; r < 3; r++) {
            if (rings[r] != g && rings[r].find(n.address) != null) {
                beyond = r;
            }
        }
        Nd other = rings[beyond].find(n.address);
        int k = n.address - 10;
        Fr copy = g.frame.again();
        if (copy.kind == Kind.EXPLORE) {
            if (copy.rings.contains(beyond) || copy.path.size() == 2) {
                meet("EXPLORE not spread");
                return;
            }
            copy.path.add(k);
            copy.rings.add(beyond);
        } else {
            if (copy.route.isEmpty() || copy.route.get(0) != k) {
                return;
            }
            copy.route.remove(0);
        }
        if (other.full()) {
            meet("port full for " + copy.kind);
            return;
        }
        other.queue.add(copy);
        g.copied = true;
    }

    private void station(Rg g, Nd n) {
        Fr f = g.frame;
        if (f.to != n.address || !f.route.isEmpty()) {
            return;
        }
        if (g.copied) {
            meet("received again " + f.kind);
        }
        g.copied = true;
        if (f.kind == Kind.EXPLORE) {
            Fr reply = new Fr(Kind.REPLY, 2, n.address, f.from);
            reply.path.addAll(f.path);
            reply.route.addAll(f.path);
            Collections.reverse(reply.route);
            queue(n, reply);
            return;
        }
        if (f.kind == Kind.REPLY) {
            if (routes.putIfAbsent(10 * f.to + f.from, f.path) == null) {
                meet("route of " + f.path.size());
            } else {
                meet("route known already");
            }
            return;
        }
        if (f.con.state != State.OPEN) {
            meet("late " + f.kind + " of " + f.con.state);
        } else if (f.kind == Kind.DATA) {
            data(n, f);
        } else {
            answered(f);
        }
    }

    private void data(Nd n, Fr f) {
        Con con = f.con;
        int e = con.expected % 8;
        int back = Math.floorMod(e - f.number, 8);
        if (back == 0 && con.inbox.size() < 4) {
            con.inbox.add(f.value);
            con.expected++;
            con.complaining = false;
            answer(n, con, Kind.READY);
        } else if (back == 0) {
            con.puttingOff = true;
            meet("BUSY");
            answer(n, con, Kind.BUSY);
        } else if (back <= 4) {
            meet("DATA back by " + back);
            answer(n, con, Kind.READY);
        } else if (!con.complaining) {
            meet("AGAIN after " + back);
            con.complaining = true;
            answer(n, con, Kind.AGAIN);
        } else {
            meet("still COMPLAINING");
        }
    }

    private void answer(Nd n, Con con, Kind kind) {
        Fr f = new Fr(kind, 2, con.b, con.a);
        f.route.addAll(con.route);
        Collections.reverse(f.route);
        f.con = con;
        f.number = con.expected % 8;
        queue(n, f);
    }

    private void answered(Fr f) {
        Con con = f.con;
        int k = Math.floorMod(f.number - con.first, 8);
        if (k > con.sent) {
            meet("too far " + f.kind);
            return;
        }
        meet(f.kind + " of " + k);
        for (int i = 0; i < k; i++) {
            con.offered.remove(0);
            con.first++;
            con.sent--;
            con.timer = 0;
            con.tries = 0;
        }
        if (f.kind == Kind.BUSY) {
            con.waiting = true;
            con.timer = 0;
        } else {
            if (con.waiting) {
                meet(f.kind + " ends WAITING");
            }
            con.waiting = false;
            if (f.kind == Kind.AGAIN) {
                con.sent = 0;
            }
        }
    }

    int signal(int r) {
        if (!ring(r)) {
            return -1;
        }
        Rg g = rings[r];
        switch (g.sort) {
            case SILENCE:
                return 0;
            case CLAIM:
                return 3 + 8 * g.address;
            case PURGE:
                return 4 + 8 * g.address;
            default:
                int marks = (g.seen ? 128 : 0) + (g.bad ? 256 : 0) + (g.copied ? 512 : 0);
                return (g.sort == Sort.TOKEN ? 1 : 2) + 8 * g.priority + 32 * g.reserved + marks;
        }
    }

    int at(int r) {
        return ring(r) && rings[r].sort != Sort.SILENCE ? rings[r].nodes.indexOf(rings[r].at) : -1;
    }

    int monitor(int r) {
        if (!ring(r)) {
            return -1;
        }
        return rings[r].monitor == null ? 0 : rings[r].monitor.address;
    }

    int node(int r, int place, int what) {
        if (!ring(r) || place < 0 || place >= rings[r].nodes.size() || what < 0 || what > 2) {
            return -1;
        }
        Nd n = rings[r].nodes.get(place);
        return what == 0 ? n.address : what == 1 ? n.queue.size() : n.stack.size();
    }

    int count(int r, int what) {
        return ring(r) && what >= 0 && what <= 2 ? rings[r].counts[what] : -1;
    }

    int connection(int c, int what) {
        if (c < 0 || c > 3 || what < 0 || what > 7) {
            return -1;
        }
        Con con = cons[c];
        if (con == null) {
            return what == 0 ? 0 : -1;
        }
        int[] all = {con.state == State.OPEN ? 1 : 2, con.first, con.sent, con.offered.size(), con.expected,
            con.inbox.size(), con.tries, con.timer + (con.waiting ? 100 : 0)};
        return all[what];
    }
}
