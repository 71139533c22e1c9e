/**
 * Three rings of stations with tokens, monitors, bridges and connections.
 *
 * All objects are made by the constructor and used again: frames are copied from row to row, so that no later call
 * makes anything.
 */
public final class RingBridges {
    private static final int RINGS = 3;
    private static final int PLACES = 5;
    private static final int LAST_STATION = 9;
    private static final int FIRST_PORT = 10;
    private static final int BRIDGES = 3;
    private static final int CONNECTIONS = 4;
    private static final int TOP_PRIORITY = 3;
    private static final int TOP_BYTE = 255;
    private static final int QUEUE_LIMIT = 4;
    // The pairs of a ring never overlap and lie within 0 .. 3, so a stack has three at most.
    private static final int STACK_LIMIT = 3;
    private static final int QUIET_LIMIT = 6;
    private static final int TICK_LIMIT = 200;
    private static final int OFFER_LIMIT = 8;
    private static final int INBOX_LIMIT = 4;
    private static final int WINDOW = 3;
    private static final int REPEAT_RANGE = 4;
    private static final int NUMBER_MASK = 7;
    private static final int TIMER_LIMIT = 60;
    private static final int TRIES_LIMIT = 4;
    private static final int WAITING_MARK = 100;

    private static final int SILENCE = 0;
    private static final int TOKEN = 1;
    private static final int FRAME = 2;
    private static final int CLAIM = 3;
    private static final int PURGE = 4;

    private static final int NOTHING = 0;
    private static final int EXPLORE = 1;
    private static final int REPLY = 2;
    private static final int DATA = 3;
    private static final int READY = 4;
    private static final int AGAIN = 5;
    private static final int BUSY = 6;

    private static final int EXPLORE_PRIORITY = 1;
    private static final int ANSWER_PRIORITY = 2;

    private static final int FREE = 0;
    private static final int OPEN = 1;
    private static final int FAILED = 2;

    // Routes and paths are held as the document's route() answers them.
    private static final int UNKNOWN = -1;
    private static final int NO_BRIDGES = 0;
    private static final int MOST_OF_ONE_BRIDGE = 3;

    private final Ring[] rings;
    private final Link[] links;
    private final int[][] routes;
    private int ticks;

    public RingBridges() {
        rings = new Ring[RINGS];
        for (int r = 0; r < RINGS; r++) {
            rings[r] = new Ring(r);
        }
        links = new Link[CONNECTIONS];
        for (int c = 0; c < CONNECTIONS; c++) {
            links[c] = new Link(c);
        }
        routes = new int[LAST_STATION + 1][LAST_STATION + 1];
        for (int a = 0; a <= LAST_STATION; a++) {
            for (int b = 0; b <= LAST_STATION; b++) {
                routes[a][b] = UNKNOWN;
            }
        }
        ticks = 0;
    }

    public boolean join(int r, int address) {
        Ring ring = ringNumbered(r);
        if (ring == null || !isStationAddress(address)) {
            return false;
        }
        if (ring.isFull() || ringHolding(address) != null) {
            return false;
        }
        ring.addNode(address);
        return true;
    }

    public boolean bridge(int k, int r, int s) {
        Ring one = ringNumbered(r);
        Ring two = ringNumbered(s);
        if (k < 0 || k >= BRIDGES || one == null || two == null || r == s) {
            return false;
        }
        int address = FIRST_PORT + k;
        if (one.isFull() || two.isFull() || ringHolding(address) != null) {
            return false;
        }
        one.addNode(address);
        two.addNode(address);
        return true;
    }

    public boolean leave(int address) {
        boolean gone = false;
        for (int r = 0; r < RINGS; r++) {
            int place = rings[r].placeOf(address);
            if (place >= 0) {
                rings[r].removeNode(place);
                gone = true;
            }
        }
        if (gone && isStationAddress(address)) {
            forgetStation(address);
        }
        return gone;
    }

    public boolean damage(int r) {
        Ring ring = ringNumbered(r);
        if (ring == null || ring.signal.kind == SILENCE) {
            return false;
        }
        if (ring.signal.kind == FRAME) {
            ring.signal.bad = true;
        } else {
            ring.fallSilent();
        }
        return true;
    }

    public boolean explore(int a, int b) {
        if (!isStationAddress(a) || !isStationAddress(b) || a == b) {
            return false;
        }
        Ring ring = ringHolding(a);
        if (ring == null) {
            return false;
        }
        Frame frame = ring.addFrameAt(a);
        if (frame == null) {
            return false;
        }
        frame.begin(EXPLORE, EXPLORE_PRIORITY, a, b);
        frame.visited = 1 << ring.number;
        return true;
    }

    public boolean forget(int a, int b) {
        if (knownRoute(a, b) == UNKNOWN) {
            return false;
        }
        setRoute(a, b, UNKNOWN);
        return true;
    }

    public int route(int a, int b) {
        return knownRoute(a, b);
    }

    public int open(int a, int b, int priority) {
        if (!isStationAddress(a) || !isStationAddress(b) || a == b || priority < 0 || priority > TOP_PRIORITY) {
            return -1;
        }
        Ring start = ringHolding(a);
        Ring end = ringHolding(b);
        if (start == null || end == null) {
            return -1;
        }
        boolean onOneRing = start.number == end.number;
        int way = onOneRing ? NO_BRIDGES : knownRoute(a, b);
        if (!onOneRing && (way == UNKNOWN || way == NO_BRIDGES)) {
            return -2;
        }
        for (int c = 0; c < CONNECTIONS; c++) {
            if (links[c].state == FREE) {
                links[c].begin(a, b, priority, way);
                return c;
            }
        }
        return -3;
    }

    public boolean close(int c) {
        Link link = linkNumbered(c);
        if (link == null || link.state == FREE) {
            return false;
        }
        link.state = FREE;
        return true;
    }

    public boolean offer(int c, int v) {
        Link link = linkNumbered(c);
        if (link == null || link.state != OPEN || v < 0 || v > TOP_BYTE || link.offered.isFull()) {
            return false;
        }
        link.offered.add(v);
        return true;
    }

    public int take(int c) {
        Link link = linkNumbered(c);
        if (link == null || link.state == FREE || link.inbox.size == 0) {
            return -1;
        }
        int value = link.inbox.get(0);
        link.inbox.dropFirst(1);
        if (link.state == OPEN && link.puttingOff) {
            Node receiver = nodeHolding(link.to);
            if (receiver != null && !receiver.isFull()) {
                link.puttingOff = false;
                queueAnswer(receiver, link, READY);
            }
        }
        return value;
    }

    public int tick(int n) {
        if (n < 0 || n > TICK_LIMIT) {
            return ticks;
        }
        for (int i = 0; i < n; i++) {
            for (int r = 0; r < RINGS; r++) {
                moveRing(rings[r]);
            }
            for (int c = 0; c < CONNECTIONS; c++) {
                links[c].runTimer();
                queueData(links[c]);
            }
            ticks++;
        }
        return ticks;
    }

    public int signal(int r) {
        Ring ring = ringNumbered(r);
        return ring == null ? -1 : ring.signal.code();
    }

    public int at(int r) {
        Ring ring = ringNumbered(r);
        return ring == null || ring.signal.kind == SILENCE ? -1 : ring.at;
    }

    public int monitor(int r) {
        Ring ring = ringNumbered(r);
        return ring == null ? -1 : ring.monitor;
    }

    public int node(int r, int place, int what) {
        Ring ring = ringNumbered(r);
        Node node = ring == null ? null : ring.nodeAt(place);
        if (node == null) {
            return -1;
        }
        switch (what) {
            case 0:
                return node.address;
            case 1:
                return node.waiting;
            case 2:
                return node.depth;
            default:
                return -1;
        }
    }

    public int count(int r, int what) {
        Ring ring = ringNumbered(r);
        if (ring == null) {
            return -1;
        }
        switch (what) {
            case 0:
                return ring.purges;
            case 1:
                return ring.sent;
            case 2:
                return ring.lost;
            default:
                return -1;
        }
    }

    public int connection(int c, int what) {
        Link link = linkNumbered(c);
        if (link == null || (link.state == FREE && what != 0)) {
            return -1;
        }
        switch (what) {
            case 0:
                return link.state;
            case 1:
                return link.first;
            case 2:
                return link.sent;
            case 3:
                return link.offered.size;
            case 4:
                return link.expected;
            case 5:
                return link.inbox.size;
            case 6:
                return link.tries;
            case 7:
                return link.waiting ? link.timer + WAITING_MARK : link.timer;
            default:
                return -1;
        }
    }

    private static boolean isStationAddress(int address) {
        return address >= 1 && address <= LAST_STATION;
    }

    private Ring ringNumbered(int r) {
        return r >= 0 && r < RINGS ? rings[r] : null;
    }

    private Link linkNumbered(int c) {
        return c >= 0 && c < CONNECTIONS ? links[c] : null;
    }

    private Ring ringHolding(int address) {
        for (int r = 0; r < RINGS; r++) {
            if (rings[r].placeOf(address) >= 0) {
                return rings[r];
            }
        }
        return null;
    }

    private Node nodeHolding(int address) {
        for (int r = 0; r < RINGS; r++) {
            Node node = rings[r].nodeAt(rings[r].placeOf(address));
            if (node != null) {
                return node;
            }
        }
        return null;
    }

    private Ring ringBeyond(Ring ring, int port) {
        for (int r = 0; r < RINGS; r++) {
            if (r != ring.number && rings[r].placeOf(port) >= 0) {
                return rings[r];
            }
        }
        return null;
    }

    private int knownRoute(int a, int b) {
        return isStationAddress(a) && isStationAddress(b) ? routes[a][b] : UNKNOWN;
    }

    private void setRoute(int a, int b, int path) {
        if (isStationAddress(a) && isStationAddress(b)) {
            routes[a][b] = path;
        }
    }

    private void forgetStation(int address) {
        for (int other = 1; other <= LAST_STATION; other++) {
            setRoute(address, other, UNKNOWN);
            setRoute(other, address, UNKNOWN);
        }
        for (int c = 0; c < CONNECTIONS; c++) {
            Link link = links[c];
            if (link.state == OPEN && (link.from == address || link.to == address)) {
                link.state = FAILED;
            }
        }
    }

    private void moveRing(Ring ring) {
        if (ring.size == 0) {
            return;
        }
        if (ring.signal.kind == SILENCE) {
            ring.stayQuiet();
            return;
        }
        int place = ring.at;
        Node node = ring.nodeAt(place);
        if (node == null) {
            return;
        }
        ring.at = ring.placeBehind(place);
        switch (ring.signal.kind) {
            case TOKEN:
                ring.meetToken(node);
                break;
            case FRAME:
                meetFrame(ring, node);
                break;
            case CLAIM:
                ring.meetClaim(node);
                break;
            default:
                ring.meetPurge(node);
                break;
        }
    }

    private void meetFrame(Ring ring, Node node) {
        Signal signal = ring.signal;
        if (node.address == signal.address) {
            ring.endFrame(node);
            return;
        }
        if (node.address == ring.monitor) {
            if (signal.seen) {
                ring.startPurge();
                return;
            }
            signal.seen = true;
        }
        if (!signal.bad && receive(ring, node)) {
            signal.copied = true;
        }
        signal.reserve(node);
    }

    /** Answers whether the frame is COPIED by this node. */
    private boolean receive(Ring ring, Node node) {
        Frame frame = ring.signal.frame;
        if (node.address >= FIRST_PORT) {
            return frame.kind == EXPLORE ? spreadFrame(ring, node, frame) : carryFrame(ring, node, frame);
        }
        if (frame.route != NO_BRIDGES || frame.to != node.address) {
            return false;
        }
        switch (frame.kind) {
            case EXPLORE:
                queueReply(node, frame);
                break;
            case REPLY:
                learnRoute(frame);
                break;
            default:
                useFrame(node, frame);
                break;
        }
        return true;
    }

    private boolean carryFrame(Ring ring, Node port, Frame frame) {
        if (firstPort(frame.route) != port.address) {
            return false;
        }
        Ring beyond = ringBeyond(ring, port.address);
        Frame copy = beyond == null ? null : beyond.addFrameAt(port.address);
        if (copy == null) {
            return false;
        }
        copy.copyFrom(frame);
        copy.route = withoutFirst(frame.route);
        return true;
    }

    private boolean spreadFrame(Ring ring, Node port, Frame frame) {
        Ring beyond = ringBeyond(ring, port.address);
        if (beyond == null || hasTwo(frame.path)) {
            return false;
        }
        int mark = 1 << beyond.number;
        if ((frame.visited & mark) != 0) {
            return false;
        }
        Frame copy = beyond.addFrameAt(port.address);
        if (copy == null) {
            return false;
        }
        copy.copyFrom(frame);
        copy.path = withLast(frame.path, port.address);
        copy.visited = frame.visited | mark;
        return true;
    }

    private static void queueReply(Node node, Frame asked) {
        Frame reply = node.addFrame();
        if (reply != null) {
            reply.begin(REPLY, ANSWER_PRIORITY, node.address, asked.from);
            reply.path = asked.path;
            reply.route = backwards(asked.path);
        }
    }

    private void learnRoute(Frame reply) {
        if (knownRoute(reply.to, reply.from) == UNKNOWN) {
            setRoute(reply.to, reply.from, reply.path);
        }
    }

    private void useFrame(Node node, Frame frame) {
        Link link = linkNumbered(frame.connection);
        if (link == null || link.state != OPEN || link.opening != frame.opening) {
            return;
        }
        if (frame.kind == DATA) {
            int answer = link.acceptData(frame.number, frame.value);
            if (answer != NOTHING) {
                queueAnswer(node, link, answer);
            }
        } else {
            link.acceptAnswer(frame.kind, frame.number);
        }
    }

    private static void queueAnswer(Node node, Link link, int kind) {
        Frame answer = node.addFrame();
        if (answer != null) {
            answer.begin(kind, ANSWER_PRIORITY, link.to, link.from);
            answer.route = backwards(link.route);
            answer.belongTo(link, link.expected & NUMBER_MASK);
        }
    }

    private void queueData(Link link) {
        if (link.state != OPEN || link.waiting) {
            return;
        }
        Node sender = nodeHolding(link.from);
        if (sender == null) {
            return;
        }
        while (link.sent < WINDOW && link.sent < link.offered.size && !sender.isFull()) {
            Frame data = sender.addFrame();
            if (data != null) {
                data.begin(DATA, link.priority, link.from, link.to);
                data.route = link.route;
                data.belongTo(link, (link.first + link.sent) & NUMBER_MASK);
                data.value = link.offered.get(link.sent);
            }
            link.sent++;
        }
    }

    private static int firstPort(int path) {
        return path == NO_BRIDGES ? 0 : FIRST_PORT + (path & 3) - 1;
    }

    private static int withoutFirst(int path) {
        return path >> 2;
    }

    private static boolean hasTwo(int path) {
        return path > MOST_OF_ONE_BRIDGE;
    }

    private static int withLast(int path, int port) {
        int mark = port - FIRST_PORT + 1;
        return path == NO_BRIDGES ? mark : path + 4 * mark;
    }

    private static int backwards(int path) {
        return path > MOST_OF_ONE_BRIDGE ? (path >> 2) + 4 * (path & 3) : path;
    }

    /** One ring with its nodes in the order of their places; rows behind the last place wait to be used. */
    private static final class Ring {
        final int number;
        final Node[] nodes;
        final Signal signal;
        int size;
        int at;
        int quiet;
        int monitor;
        int purges;
        int sent;
        int lost;

        Ring(int number) {
            this.number = number;
            nodes = new Node[PLACES];
            for (int place = 0; place < PLACES; place++) {
                nodes[place] = new Node();
            }
            signal = new Signal();
        }

        boolean isFull() {
            return size >= PLACES;
        }

        int placeOf(int address) {
            for (int place = 0; place < size && place < PLACES; place++) {
                if (nodes[place].address == address) {
                    return place;
                }
            }
            return -1;
        }

        Node nodeAt(int place) {
            return place >= 0 && place < size && place < PLACES ? nodes[place] : null;
        }

        int placeBehind(int place) {
            return place + 1 < size ? place + 1 : 0;
        }

        Frame addFrameAt(int address) {
            Node node = nodeAt(placeOf(address));
            return node == null ? null : node.addFrame();
        }

        void addNode(int address) {
            if (!isFull()) {
                nodes[size].begin(address);
                size++;
            }
        }

        void removeNode(int place) {
            Node gone = nodeAt(place);
            if (gone == null) {
                return;
            }
            for (int i = place; i + 1 < size && i + 1 < PLACES; i++) {
                nodes[i] = nodes[i + 1];
            }
            size--;
            nodes[size] = gone;
            if (at > place) {
                at--;
            } else if (at >= size) {
                at = 0;
            }
            if (monitor == gone.address) {
                monitor = 0;
            }
            boolean itsOwn = signal.kind == CLAIM || signal.kind == PURGE;
            if (size == 0 || (itsOwn && signal.address == gone.address)) {
                fallSilent();
            }
        }

        void fallSilent() {
            signal.kind = SILENCE;
            quiet = 0;
        }

        void stayQuiet() {
            quiet++;
            if (quiet < QUIET_LIMIT) {
                return;
            }
            quiet = 0;
            if (monitor != 0) {
                at = placeBehind(placeOf(monitor));
                startPurge();
            } else {
                at = placeBehind(0);
                signal.kind = CLAIM;
                signal.address = nodes[0].address;
            }
        }

        // AT is already the place behind the monitor whenever this is called.
        void startPurge() {
            signal.kind = PURGE;
            signal.address = monitor;
            purges++;
        }

        void meetToken(Node node) {
            if (node.address == monitor && signal.priority > 0) {
                if (signal.seen) {
                    startPurge();
                    return;
                }
                signal.seen = true;
            }
            if (node.depth > 0 && node.topUpper() == signal.priority) {
                node.lowerToken(signal);
            }
            if (node.waiting > 0 && node.firstPriority() >= signal.priority) {
                node.moveFirstTo(signal.frame);
                signal.becomeFrame(node.address);
                sent++;
            } else {
                signal.reserve(node);
            }
        }

        void endFrame(Node node) {
            if (!signal.copied) {
                lost++;
            }
            signal.reserve(node);
            int wanted = signal.reserved;
            if (wanted > signal.priority) {
                node.push(signal.priority, wanted);
                signal.becomeToken(wanted, 0);
            } else {
                signal.becomeToken(signal.priority, wanted);
            }
        }

        void meetClaim(Node node) {
            if (node.address > signal.address) {
                signal.address = node.address;
            } else if (node.address == signal.address) {
                monitor = node.address;
                startPurge();
            }
        }

        void meetPurge(Node node) {
            node.depth = 0;
            if (node.address == signal.address) {
                signal.becomeToken(0, 0);
            }
        }
    }

    /** What goes round on a ring; the address is the sender's, the claimer's or the purging monitor's. */
    private static final class Signal {
        final Frame frame;
        int kind;
        int priority;
        int reserved;
        int address;
        boolean seen;
        boolean bad;
        boolean copied;

        Signal() {
            frame = new Frame();
            kind = SILENCE;
        }

        void becomeToken(int newPriority, int newReserved) {
            kind = TOKEN;
            priority = newPriority;
            reserved = newReserved;
            clearMarks();
        }

        void becomeFrame(int sender) {
            kind = FRAME;
            address = sender;
            reserved = 0;
            clearMarks();
        }

        private void clearMarks() {
            seen = false;
            bad = false;
            copied = false;
        }

        void reserve(Node node) {
            if (node.waiting > 0 && node.firstPriority() > reserved) {
                reserved = node.firstPriority();
            }
        }

        int code() {
            switch (kind) {
                case SILENCE:
                    return 0;
                case CLAIM:
                case PURGE:
                    return kind + 8 * address;
                default:
                    return kind + 8 * priority + 32 * reserved
                            + (seen ? 128 : 0) + (bad ? 256 : 0) + (copied ? 512 : 0);
            }
        }
    }

    /** A station or a port, with its queue (a row used in a circle) and its stack of pairs. */
    private static final class Node {
        final Frame[] queue;
        final int[] lowers;
        final int[] uppers;
        int address;
        int head;
        int waiting;
        int depth;

        Node() {
            queue = new Frame[QUEUE_LIMIT];
            for (int i = 0; i < QUEUE_LIMIT; i++) {
                queue[i] = new Frame();
            }
            lowers = new int[STACK_LIMIT];
            uppers = new int[STACK_LIMIT];
        }

        void begin(int newAddress) {
            address = newAddress;
            head = 0;
            waiting = 0;
            depth = 0;
        }

        boolean isFull() {
            return waiting >= QUEUE_LIMIT;
        }

        /** The row of a frame behind those that wait, or null when it is to be dropped. */
        Frame addFrame() {
            if (waiting >= QUEUE_LIMIT) {
                return null;
            }
            Frame frame = queue[(head + waiting) & (QUEUE_LIMIT - 1)];
            waiting++;
            return frame;
        }

        int firstPriority() {
            return queue[head & (QUEUE_LIMIT - 1)].priority;
        }

        void moveFirstTo(Frame target) {
            target.copyFrom(queue[head & (QUEUE_LIMIT - 1)]);
            head = (head + 1) & (QUEUE_LIMIT - 1);
            waiting--;
        }

        void push(int lower, int upper) {
            if (depth >= 0 && depth < STACK_LIMIT) {
                lowers[depth] = lower;
                uppers[depth] = upper;
                depth++;
            }
        }

        int topUpper() {
            return depth > 0 && depth <= STACK_LIMIT ? uppers[depth - 1] : -1;
        }

        void lowerToken(Signal token) {
            if (depth <= 0 || depth > STACK_LIMIT) {
                return;
            }
            int lower = lowers[depth - 1];
            if (token.reserved > lower) {
                uppers[depth - 1] = token.reserved;
                token.priority = token.reserved;
                token.reserved = 0;
            } else {
                depth--;
                token.priority = lower;
            }
            token.seen = false;
        }
    }

    private static final class Frame {
        int kind;
        int priority;
        int from;
        int to;
        int route;
        int path;
        int visited;
        int connection;
        int opening;
        int number;
        int value;

        void begin(int newKind, int newPriority, int newFrom, int newTo) {
            kind = newKind;
            priority = newPriority;
            from = newFrom;
            to = newTo;
            route = NO_BRIDGES;
            path = NO_BRIDGES;
        }

        void belongTo(Link link, int newNumber) {
            connection = link.number;
            opening = link.opening;
            number = newNumber;
        }

        void copyFrom(Frame other) {
            kind = other.kind;
            priority = other.priority;
            from = other.from;
            to = other.to;
            route = other.route;
            path = other.path;
            visited = other.visited;
            connection = other.connection;
            opening = other.opening;
            number = other.number;
            value = other.value;
        }
    }

    /** A connection with what its sender and its receiver hold. */
    private static final class Link {
        final int number;
        final ByteRow offered;
        final ByteRow inbox;
        int state;
        // Counts the openings, so that frames of an earlier one are known.
        int opening;
        int from;
        int to;
        int priority;
        int route;
        int first;
        int sent;
        int timer;
        int tries;
        int expected;
        boolean waiting;
        boolean complaining;
        boolean puttingOff;

        Link(int number) {
            this.number = number;
            offered = new ByteRow(OFFER_LIMIT);
            inbox = new ByteRow(INBOX_LIMIT);
            state = FREE;
        }

        void begin(int a, int b, int ownPriority, int way) {
            state = OPEN;
            opening++;
            from = a;
            to = b;
            priority = ownPriority;
            route = way;
            offered.clear();
            inbox.clear();
            first = 0;
            sent = 0;
            timer = 0;
            tries = 0;
            expected = 0;
            waiting = false;
            complaining = false;
            puttingOff = false;
        }

        /** Answers the kind of the frame that the receiver queues, or NOTHING. */
        int acceptData(int dataNumber, int value) {
            int due = expected & NUMBER_MASK;
            if (dataNumber == due) {
                if (inbox.isFull()) {
                    puttingOff = true;
                    return BUSY;
                }
                inbox.add(value);
                expected++;
                complaining = false;
                return READY;
            }
            if (((due - dataNumber) & NUMBER_MASK) <= REPEAT_RANGE) {
                return READY;
            }
            if (complaining) {
                return NOTHING;
            }
            complaining = true;
            return AGAIN;
        }

        void acceptAnswer(int kind, int answerNumber) {
            int accepted = (answerNumber - first) & NUMBER_MASK;
            if (accepted > sent) {
                return;
            }
            offered.dropFirst(accepted);
            first += accepted;
            sent -= accepted;
            if (accepted != 0) {
                timer = 0;
                tries = 0;
            }
            waiting = kind == BUSY;
            if (kind == AGAIN) {
                sent = 0;
            } else if (kind == BUSY) {
                timer = 0;
            }
        }

        void runTimer() {
            if (state != OPEN) {
                return;
            }
            timer = sent != 0 || waiting ? timer + 1 : 0;
            if (timer < TIMER_LIMIT) {
                return;
            }
            tries++;
            timer = 0;
            sent = 0;
            waiting = false;
            if (tries >= TRIES_LIMIT) {
                state = FAILED;
            }
        }
    }

    /** Bytes in order, held in a row that is used in a circle; its length is a power of two. */
    private static final class ByteRow {
        final int[] values;
        final int mask;
        int start;
        int size;

        ByteRow(int limit) {
            values = new int[limit];
            mask = limit - 1;
        }

        void clear() {
            start = 0;
            size = 0;
        }

        boolean isFull() {
            return size >= values.length;
        }

        void add(int value) {
            if (!isFull()) {
                values[(start + size) & mask] = value;
                size++;
            }
        }

        int get(int i) {
            return i >= 0 && i < size ? values[(start + i) & mask] : -1;
        }

        void dropFirst(int many) {
            if (many >= 0 && many <= size) {
                start = (start + many) & mask;
                size -= many;
            }
        }
    }
}
