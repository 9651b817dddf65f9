/**
 * A network whose nodes tell one another of their links by flooding.
 *
 * All rows are made with the object and used again: no call but send makes anything, so that a long
 * run of ticks costs no room.
 */
public final class FloodingNet {

    /** There is none. */
    public static final int NONE = -1;

    private static final int NODES = 8;
    private static final int PAIRS = NODES * NODES;
    private static final int FLIGHT_ROWS = PAIRS * NODES;
    private static final int MOST_LINKS = 12;
    private static final int MOST_COST = 50;
    private static final int MOST_DELAY = 8;
    private static final int MOST_TICKS = 50;
    private static final int MOST_PACKETS = 20;
    private static final int MOST_LIFE = 30;
    private static final int AGE_TO_TELL_AGAIN = 40;
    private static final int AGE_TO_FORGET = 60;

    /** More than any way costs: that has at most seven steps of at most 50. */
    private static final int NO_WAY = 1000;

    private final boolean[] there;
    private final int[] latestNumber;

    /** Links by pair, both ways round; a pair without a link has the cost 0. */
    private final int[] linkCost;
    private final int[] linkDelay;
    private final boolean[] linkUp;
    private int linkCount;

    private final Pieces known;
    private final Pieces inFlight;
    private final int[] newsArrival;

    private final Packet[] packets;
    private int packetCount;

    private final int[] costToGoal;
    private int time;

    public FloodingNet() {
        there = new boolean[NODES];
        latestNumber = new int[NODES];
        linkCost = new int[PAIRS];
        linkDelay = new int[PAIRS];
        linkUp = new boolean[PAIRS];
        known = new Pieces(PAIRS);
        inFlight = new Pieces(FLIGHT_ROWS);
        newsArrival = new int[FLIGHT_ROWS];
        packets = new Packet[MOST_PACKETS];
        costToGoal = new int[NODES];
    }

    public int link(int u, int v, int cost, int delay)
            throws IllegalArgumentException, IllegalStateException {
        if (!isNode(u) || !isNode(v) || u == v) {
            throw new IllegalArgumentException("a link joins two nodes");
        }
        if (cost < 1 || cost > MOST_COST || delay < 1 || delay > MOST_DELAY) {
            throw new IllegalArgumentException("cost or delay out of bounds");
        }
        if (hasLink(u, v) || linkCount >= MOST_LINKS) {
            throw new IllegalStateException("no room for this link");
        }
        putLink(u, v, cost, delay);
        putLink(v, u, cost, delay);
        linkCount++;
        bringUp(u, v);
        return linkCount;
    }

    public boolean fail(int u, int v) throws IllegalArgumentException {
        if (!hasLink(u, v)) {
            throw new IllegalArgumentException("no such link");
        }
        if (!linkUp[pair(u, v)]) {
            return false;
        }
        takeDown(u, v);
        return true;
    }

    public boolean restore(int u, int v) throws IllegalArgumentException {
        if (!hasLink(u, v)) {
            throw new IllegalArgumentException("no such link");
        }
        if (linkUp[pair(u, v)]) {
            return false;
        }
        bringUp(u, v);
        return true;
    }

    public boolean start(int u) throws IllegalArgumentException {
        if (!isNode(u)) {
            throw new IllegalArgumentException("no such node");
        }
        if (there[u]) {
            return false;
        }
        there[u] = true;
        latestNumber[u] = 0;
        tellNeighbours(u);
        tell(u);
        for (int other = 0; other < NODES; other++) {
            if (carries(other, u)) {
                sendAllKnown(other, u);
            }
        }
        return true;
    }

    public boolean crash(int u) throws IllegalArgumentException {
        if (!isNode(u)) {
            throw new IllegalArgumentException("no such node");
        }
        if (!there[u]) {
            return false;
        }
        there[u] = false;
        for (int other = 0; other < NODES; other++) {
            known.clear(knownRow(u, other));
            emptyLink(u, other);
        }
        tellNeighbours(u);
        return true;
    }

    public int tick(int n) throws IllegalArgumentException {
        if (n < 1 || n > MOST_TICKS) {
            throw new IllegalArgumentException("1 to 50 ticks at once");
        }
        for (int i = 0; i < n; i++) {
            time++;
            known.clearBornUntil(time - AGE_TO_FORGET);
            inFlight.clearBornUntil(time - AGE_TO_FORGET);
            tellAgain();
            receiveArrivedNews();
            movePackets();
        }
        return time;
    }

    public int news(int node, int origin, int what) {
        if (!isNode(node) || !isNode(origin)) {
            return NONE;
        }
        int row = knownRow(node, origin);
        if (known.number[row] == 0) {
            return NONE;
        }
        switch (what) {
            case 0:
                return known.number[row];
            case 1:
                return time - known.born[row];
            case 2:
                return known.costCount(row);
            default:
                return what >= 10 && isNode(what - 10) ? known.costFor(row, what - 10) : NONE;
        }
    }

    public int flying() {
        return inFlight.count;
    }

    public int distance(int node, int to) {
        if (!isNode(node) || !isNode(to) || !there[node]) {
            return NONE;
        }
        measureWays(node, to);
        return costToGoal[node] < NO_WAY ? costToGoal[node] : NONE;
    }

    public int next(int node, int to) {
        if (!isNode(node) || !isNode(to) || !there[node]) {
            return NONE;
        }
        return nextHop(node, to);
    }

    public int send(int from, int to, int life)
            throws IllegalArgumentException, IllegalStateException {
        if (!isNode(from) || !isNode(to) || life < 0 || life > MOST_LIFE) {
            throw new IllegalArgumentException("no such nodes, or life out of bounds");
        }
        if (!there[from] || packetCount >= MOST_PACKETS) {
            throw new IllegalStateException("the node is not there, or all packets are used");
        }
        Packet packet = new Packet(to, life);
        packets[packetCount] = packet;
        packetCount++;
        handle(packet, from);
        return packetCount - 1;
    }

    public int packet(int number, int what) {
        if (number < 0 || number >= packetCount) {
            return NONE;
        }
        Packet packet = packets[number];
        if (packet == null) {
            return NONE;
        }
        switch (what) {
            case 0:
                return packet.state;
            case 1:
                return packet.life;
            case 2:
                return packet.traceLength;
            default:
                return what >= 10 && what - 10 < packet.traceLength ? packet.trace[what - 10] : NONE;
        }
    }

    public boolean settled() {
        if (inFlight.count > 0) {
            return false;
        }
        for (int origin = 0; origin < NODES; origin++) {
            if (there[origin] && !agreeOn(origin)) {
                return false;
            }
        }
        return true;
    }

    private static boolean isNode(int node) {
        return node >= 0 && node < NODES;
    }

    private static int pair(int from, int to) {
        return from * NODES + to;
    }

    private static int knownRow(int node, int origin) {
        return node * NODES + origin;
    }

    private static int flightRow(int from, int to, int origin) {
        return (from * NODES + to) * NODES + origin;
    }

    private boolean hasLink(int u, int v) {
        return isNode(u) && isNode(v) && linkCost[pair(u, v)] > 0;
    }

    private boolean carries(int u, int v) {
        return linkUp[pair(u, v)] && there[u] && there[v];
    }

    private void putLink(int from, int to, int cost, int delay) {
        linkCost[pair(from, to)] = cost;
        linkDelay[pair(from, to)] = delay;
    }

    private void bringUp(int u, int v) {
        linkUp[pair(u, v)] = true;
        linkUp[pair(v, u)] = true;
        if (!carries(u, v)) {
            return;
        }
        int lesser = Math.min(u, v);
        int greater = Math.max(u, v);
        tell(lesser);
        tell(greater);
        sendAllKnown(lesser, greater);
        sendAllKnown(greater, lesser);
    }

    private void takeDown(int u, int v) {
        boolean carried = carries(u, v);
        linkUp[pair(u, v)] = false;
        linkUp[pair(v, u)] = false;
        if (!carried) {
            return;
        }
        emptyLink(u, v);
        tell(Math.min(u, v));
        tell(Math.max(u, v));
    }

    private void emptyLink(int u, int v) {
        for (int origin = 0; origin < NODES; origin++) {
            inFlight.clear(flightRow(u, v, origin));
            inFlight.clear(flightRow(v, u, origin));
        }
        for (Packet packet : packets) {
            if (packet != null && packet.isOn(u, v)) {
                packet.state = Packet.LOST;
            }
        }
    }

    /** Not by carries(): a neighbour of a node that has just gone tells too. */
    private void tellNeighbours(int node) {
        for (int other = 0; other < NODES; other++) {
            if (linkUp[pair(node, other)] && there[other]) {
                tell(other);
            }
        }
    }

    private void tell(int node) {
        latestNumber[node]++;
        known.write(knownRow(node, node), latestNumber[node], time, costsNow(node));
        spread(node, node, NONE);
    }

    private long costsNow(int node) {
        long costs = 0;
        for (int other = 0; other < NODES; other++) {
            if (carries(node, other)) {
                costs |= Pieces.packed(linkCost[pair(node, other)], other);
            }
        }
        return costs;
    }

    private void spread(int node, int origin, int exceptTo) {
        for (int other = 0; other < NODES; other++) {
            if (other != exceptTo && carries(node, other)) {
                sendKnown(node, other, origin);
            }
        }
    }

    private void sendAllKnown(int from, int to) {
        for (int origin = 0; origin < NODES; origin++) {
            sendKnown(from, to, origin);
        }
    }

    /** What is sent is always what the sender knows; an empty row has the number 0, so none is sent. */
    private void sendKnown(int from, int to, int origin) {
        int source = knownRow(from, origin);
        int row = flightRow(from, to, origin);
        if (known.number[source] > inFlight.number[row]) {
            inFlight.write(row, known.number[source], known.born[source], known.costs[source]);
            newsArrival[row] = time + linkDelay[pair(from, to)];
        }
    }

    private void tellAgain() {
        for (int node = 0; node < NODES; node++) {
            int row = knownRow(node, node);
            if (known.number[row] > 0 && time - known.born[row] == AGE_TO_TELL_AGAIN) {
                tell(node);
            }
        }
    }

    /**
     * The rows in flight stand by the node they come from, the one they come to, and their origin: in
     * the order of receiving. Each is looked at when its turn comes, as newer news that was sent
     * meanwhile may have taken its place.
     */
    private void receiveArrivedNews() {
        if (inFlight.count == 0) {
            return;
        }
        for (int row = 0; row < FLIGHT_ROWS; row++) {
            if (inFlight.number[row] > 0 && newsArrival[row] == time) {
                receive(row);
            }
        }
    }

    private void receive(int row) {
        int from = row / PAIRS;
        int to = row / NODES % NODES;
        int origin = row % NODES;
        int number = inFlight.number[row];
        int knownNumber = known.number[knownRow(to, origin)];
        if (origin == to) {
            // News from before the node came again: its own must go beyond that number.
            if (number > latestNumber[to]) {
                latestNumber[to] = number;
                tell(to);
            }
        } else if (number > knownNumber) {
            known.write(knownRow(to, origin), number, inFlight.born[row], inFlight.costs[row]);
            spread(to, origin, from);
        } else if (number < knownNumber) {
            sendKnown(to, from, origin);
        }
        inFlight.clear(row);
    }

    private void movePackets() {
        for (Packet packet : packets) {
            if (packet != null && packet.state == Packet.UNDER_WAY && packet.arrival == time) {
                handle(packet, packet.towards);
            }
        }
    }

    private void handle(Packet packet, int node) {
        packet.visit(node);
        if (node == packet.goal) {
            packet.state = Packet.DELIVERED;
            return;
        }
        if (packet.life == 0) {
            packet.state = Packet.EXPIRED;
            return;
        }
        int hop = nextHop(node, packet.goal);
        if (hop == NONE || !carries(node, hop)) {
            packet.state = Packet.LOST;
            return;
        }
        packet.life--;
        packet.towards = hop;
        packet.arrival = time + linkDelay[pair(node, hop)];
    }

    private int nextHop(int node, int goal) {
        measureWays(node, goal);
        if (node == goal || costToGoal[node] >= NO_WAY) {
            return NONE;
        }
        for (int hop = 0; hop < NODES; hop++) {
            int cost = stepCost(node, node, hop);
            if (cost > 0 && cost + costToGoal[hop] == costToGoal[node]) {
                return hop;
            }
        }
        return NONE;
    }

    /** Fills costToGoal by what the viewer knows. No shortest way has more than NODES - 1 steps. */
    private void measureWays(int viewer, int goal) {
        for (int node = 0; node < NODES; node++) {
            costToGoal[node] = node == goal ? 0 : NO_WAY;
        }
        for (int round = 1; round < NODES; round++) {
            for (int node = 0; node < NODES; node++) {
                for (int hop = 0; hop < NODES; hop++) {
                    int cost = stepCost(viewer, node, hop);
                    if (cost > 0 && cost + costToGoal[hop] < costToGoal[node]) {
                        costToGoal[node] = cost + costToGoal[hop];
                    }
                }
            }
        }
    }

    /** The cost of a step by what the viewer knows, 0 for none: both ends must tell of the link. */
    private int stepCost(int viewer, int from, int to) {
        int back = known.costFor(knownRow(viewer, to), from);
        return back > 0 ? known.costFor(knownRow(viewer, from), to) : 0;
    }

    private boolean agreeOn(int origin) {
        int joined = joinedWith(origin);
        for (int node = 0; node < NODES; node++) {
            boolean isJoined = (joined >> node & 1) == 1;
            if (isJoined && known.number[knownRow(node, origin)] != known.number[knownRow(origin, origin)]) {
                return false;
            }
        }
        return true;
    }

    /** The nodes that links that carry join with a node, itself too, as bits. */
    private int joinedWith(int node) {
        int joined = 1 << node;
        for (int round = 1; round < NODES; round++) {
            for (int near = 0; near < NODES; near++) {
                if ((joined >> near & 1) == 1) {
                    joined |= neighbours(near);
                }
            }
        }
        return joined;
    }

    private int neighbours(int node) {
        int bits = 0;
        for (int other = 0; other < NODES; other++) {
            if (carries(node, other)) {
                bits |= 1 << other;
            }
        }
        return bits;
    }

    /**
     * Pieces of news in rows. A row without news has the number 0 and tells no costs. News keeps the
     * time when it was made instead of its age: so all of it grows older by itself.
     */
    private static final class Pieces {

        /** Six bits hold a cost, so one long holds what a piece tells of all nodes. */
        private static final int COST_BITS = 6;
        private static final int COST_MASK = 63;

        private final int[] number;
        private final int[] born;
        private final long[] costs;
        private int count;

        private Pieces(int rows) {
            number = new int[rows];
            born = new int[rows];
            costs = new long[rows];
        }

        private static long packed(int cost, int node) {
            return (long) cost << COST_BITS * node;
        }

        private void write(int row, int newNumber, int newBorn, long newCosts) {
            if (number[row] == 0) {
                count++;
            }
            number[row] = newNumber;
            born[row] = newBorn;
            costs[row] = newCosts;
        }

        private int costFor(int row, int node) {
            return (int) (costs[row] >> COST_BITS * node) & COST_MASK;
        }

        private int costCount(int row) {
            int told = 0;
            for (int node = 0; node < NODES; node++) {
                if (costFor(row, node) > 0) {
                    told++;
                }
            }
            return told;
        }

        private void clear(int row) {
            if (number[row] > 0) {
                count--;
            }
            number[row] = 0;
            costs[row] = 0;
        }

        private void clearBornUntil(int latest) {
            int unseen = count;
            for (int row = 0; row < number.length && unseen > 0; row++) {
                if (number[row] > 0) {
                    unseen--;
                    if (born[row] <= latest) {
                        clear(row);
                    }
                }
            }
        }
    }

    /** A packet; the link it is on while under way goes from the node where it was last to another. */
    private static final class Packet {

        private static final int UNDER_WAY = 0;
        private static final int DELIVERED = 1;
        private static final int EXPIRED = 2;
        private static final int LOST = 3;

        private final int goal;
        private final int[] trace;
        private int traceLength;
        private int life;
        private int state;
        private int last;
        private int towards;
        private int arrival;

        private Packet(int goal, int life) {
            this.goal = goal;
            this.life = life;
            trace = new int[MOST_LIFE + 1];
            state = UNDER_WAY;
        }

        private void visit(int node) {
            last = node;
            if (traceLength < trace.length) {
                trace[traceLength] = node;
                traceLength++;
            }
        }

        private boolean isOn(int u, int v) {
            boolean there = last == u && towards == v;
            boolean back = last == v && towards == u;
            return state == UNDER_WAY && (there || back);
        }
    }
}
