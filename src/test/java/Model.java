import java.util.ArrayList;
import java.util.Comparator;
import java.util.List;
import java.util.TreeMap;

/**
 * The document's words once more, as plainly as can be: every piece of news is a copy of its own that is made
 * older by hand, what flies is a list that is sorted, and ways are found by walking all of them.
 */
final class Model {

    private static final int NONE = -1;

    private static final class News {
        int origin;
        int number;
        int age;
        TreeMap<Integer, Integer> costs = new TreeMap<>();

        News copy() {
            News copy = new News();
            copy.origin = origin;
            copy.number = number;
            copy.age = age;
            copy.costs.putAll(costs);
            return copy;
        }
    }

    private static final class Flight {
        Link link;
        int from;
        int to;
        int ticksLeft;
        News news;
    }

    private static final class Link {
        int lesser;
        int greater;
        int cost;
        int delay;
        boolean up;

        boolean joins(int u, int v) {
            return lesser == Math.min(u, v) && greater == Math.max(u, v);
        }

        boolean touches(int node) {
            return lesser == node || greater == node;
        }

        int other(int node) {
            return node == lesser ? greater : lesser;
        }
    }

    private static final class Node {
        int latest;
        TreeMap<Integer, News> known = new TreeMap<>();
    }

    private static final class Parcel {
        int to;
        int life;
        int state;
        int ticksLeft;
        int hop;
        Link link;
        List<Integer> trace = new ArrayList<>();
    }

    private final TreeMap<Integer, Node> nodes = new TreeMap<>();
    private final List<Link> links = new ArrayList<>();
    private final List<Flight> flights = new ArrayList<>();
    private final List<Parcel> parcels = new ArrayList<>();
    private int time;
    private int bestCost;
    private int bestHop;

    int link(int u, int v, int cost, int delay) {
        if (outside(u) || outside(v) || u == v || cost < 1 || cost > 50 || delay < 1 || delay > 8) {
            throw new IllegalArgumentException();
        }
        if (find(u, v) != null || links.size() == 12) {
            throw new IllegalStateException();
        }
        Link link = new Link();
        link.lesser = Math.min(u, v);
        link.greater = Math.max(u, v);
        link.cost = cost;
        link.delay = delay;
        links.add(link);
        up(link);
        return links.size();
    }

    boolean fail(int u, int v) {
        Link link = find(u, v);
        if (link == null) {
            throw new IllegalArgumentException();
        }
        if (!link.up) {
            return false;
        }
        boolean bothThere = carries(link);
        link.up = false;
        if (bothThere) {
            empty(link);
            tell(link.lesser);
            tell(link.greater);
        }
        return true;
    }

    boolean restore(int u, int v) {
        Link link = find(u, v);
        if (link == null) {
            throw new IllegalArgumentException();
        }
        if (link.up) {
            return false;
        }
        up(link);
        return true;
    }

    boolean start(int u) {
        if (outside(u)) {
            throw new IllegalArgumentException();
        }
        if (nodes.containsKey(u)) {
            return false;
        }
        nodes.put(u, new Node());
        List<Link> carrying = carrying(u);
        for (Link link : carrying) {
            tell(link.other(u));
        }
        tell(u);
        for (Link link : carrying) {
            sendAll(link, link.other(u));
        }
        return true;
    }

    boolean crash(int u) {
        if (outside(u)) {
            throw new IllegalArgumentException();
        }
        if (!nodes.containsKey(u)) {
            return false;
        }
        List<Link> carried = carrying(u);
        nodes.remove(u);
        for (Link link : carried) {
            empty(link);
        }
        for (Link link : carried) {
            tell(link.other(u));
        }
        return true;
    }

    int tick(int n) {
        if (n < 1 || n > 50) {
            throw new IllegalArgumentException();
        }
        for (int i = 0; i < n; i++) {
            oneTick();
        }
        return time;
    }

    int news(int node, int origin, int what) {
        News news = nodes.containsKey(node) ? nodes.get(node).known.get(origin) : null;
        if (news == null) {
            return NONE;
        }
        if (what == 0) {
            return news.number;
        }
        if (what == 1) {
            return news.age;
        }
        if (what == 2) {
            return news.costs.size();
        }
        return what < 10 || what > 17 ? NONE : news.costs.getOrDefault(what - 10, 0);
    }

    int flying() {
        return flights.size();
    }

    int distance(int node, int to) {
        if (!nodes.containsKey(node) || outside(to)) {
            return NONE;
        }
        look(node, to);
        return bestCost;
    }

    int next(int node, int to) {
        if (!nodes.containsKey(node) || outside(to) || node == to) {
            return NONE;
        }
        look(node, to);
        return bestHop;
    }

    int send(int from, int to, int life) {
        if (outside(from) || outside(to) || life < 0 || life > 30) {
            throw new IllegalArgumentException();
        }
        if (!nodes.containsKey(from) || parcels.size() == 20) {
            throw new IllegalStateException();
        }
        Parcel parcel = new Parcel();
        parcel.to = to;
        parcel.life = life;
        parcels.add(parcel);
        isAt(parcel, from);
        return parcels.size() - 1;
    }

    int packet(int number, int what) {
        if (number < 0 || number >= parcels.size()) {
            return NONE;
        }
        Parcel parcel = parcels.get(number);
        if (what == 0) {
            return parcel.state;
        }
        if (what == 1) {
            return parcel.life;
        }
        if (what == 2) {
            return parcel.trace.size();
        }
        return what < 10 || what - 10 >= parcel.trace.size() ? NONE : parcel.trace.get(what - 10);
    }

    boolean settled() {
        for (int a : nodes.keySet()) {
            for (int b : nodes.keySet()) {
                if (joined(a, b, 0) && (news(a, a, 0) != news(b, a, 0) || news(a, b, 0) != news(b, b, 0))) {
                    return false;
                }
            }
        }
        return flights.isEmpty();
    }

    private static boolean outside(int node) {
        return node < 0 || node > 7;
    }

    private Link find(int u, int v) {
        for (Link link : links) {
            if (link.joins(u, v)) {
                return link;
            }
        }
        return null;
    }

    private boolean carries(Link link) {
        return link.up && nodes.containsKey(link.lesser) && nodes.containsKey(link.greater);
    }

    /** A node's links that carry, by the other node. */
    private List<Link> carrying(int node) {
        List<Link> found = new ArrayList<>();
        for (Link link : links) {
            if (link.touches(node) && carries(link)) {
                found.add(link);
            }
        }
        found.sort(Comparator.comparingInt(link -> link.other(node)));
        return found;
    }

    private void up(Link link) {
        link.up = true;
        if (carries(link)) {
            tell(link.lesser);
            tell(link.greater);
            sendAll(link, link.lesser);
            sendAll(link, link.greater);
        }
    }

    private void empty(Link link) {
        flights.removeIf(flight -> flight.link == link);
        for (Parcel parcel : parcels) {
            if (parcel.state == 0 && parcel.link == link) {
                parcel.state = 3;
            }
        }
    }

    private void tell(int node) {
        News news = new News();
        news.origin = node;
        nodes.get(node).latest++;
        news.number = nodes.get(node).latest;
        for (Link link : carrying(node)) {
            news.costs.put(link.other(node), link.cost);
        }
        nodes.get(node).known.put(node, news);
        for (Link link : carrying(node)) {
            send(link, node, news);
        }
    }

    private void sendAll(Link link, int from) {
        for (News news : nodes.get(from).known.values()) {
            send(link, from, news);
        }
    }

    private void send(Link link, int from, News news) {
        Flight there = null;
        for (Flight flight : flights) {
            if (flight.link == link && flight.from == from && flight.news.origin == news.origin) {
                there = flight;
            }
        }
        if (there != null && there.news.number >= news.number) {
            return;
        }
        flights.remove(there);
        Flight flight = new Flight();
        flight.link = link;
        flight.from = from;
        flight.to = link.other(from);
        flight.ticksLeft = link.delay;
        flight.news = news.copy();
        flights.add(flight);
    }

    private void oneTick() {
        time++;
        for (Node node : nodes.values()) {
            for (News news : node.known.values()) {
                news.age++;
            }
            node.known.values().removeIf(news -> news.age == 60);
        }
        for (Flight flight : flights) {
            flight.news.age++;
            flight.ticksLeft--;
        }
        flights.removeIf(flight -> flight.news.age == 60);
        for (int node : nodes.keySet()) {
            if (nodes.get(node).known.get(node).age == 40) {
                tell(node);
            }
        }
        List<Flight> arriving = new ArrayList<>(flights);
        arriving.removeIf(flight -> flight.ticksLeft > 0);
        arriving.sort(Comparator.<Flight>comparingInt(flight -> flight.from)
                .thenComparingInt(flight -> flight.to).thenComparingInt(flight -> flight.news.origin));
        for (Flight flight : arriving) {
            if (flights.remove(flight)) {
                receive(flight);
            }
        }
        for (Parcel parcel : parcels) {
            parcel.ticksLeft--;
            if (parcel.state == 0 && parcel.ticksLeft == 0) {
                isAt(parcel, parcel.hop);
            }
        }
    }

    private void receive(Flight flight) {
        Node node = nodes.get(flight.to);
        News news = flight.news;
        if (news.origin == flight.to) {
            if (news.number > node.latest) {
                node.latest = news.number;
                tell(flight.to);
            }
            return;
        }
        News own = node.known.get(news.origin);
        if (own == null || own.number < news.number) {
            node.known.put(news.origin, news);
            for (Link link : carrying(flight.to)) {
                if (link != flight.link) {
                    send(link, flight.to, news);
                }
            }
        } else if (own.number > news.number) {
            send(flight.link, flight.to, own);
        }
    }

    private void isAt(Parcel parcel, int node) {
        parcel.trace.add(node);
        if (node == parcel.to) {
            parcel.state = 1;
        } else if (parcel.life == 0) {
            parcel.state = 2;
        } else {
            parcel.hop = next(node, parcel.to);
            parcel.link = find(node, parcel.hop);
            if (parcel.hop == NONE || parcel.link == null || !carries(parcel.link)) {
                parcel.state = 3;
            } else {
                parcel.life--;
                parcel.ticksLeft = parcel.link.delay;
            }
        }
    }

    private void look(int node, int to) {
        bestCost = NONE;
        bestHop = NONE;
        walk(nodes.get(node), node, to, 1 << node, 0, NONE);
    }

    private void walk(Node viewer, int at, int to, int been, int cost, int firstHop) {
        if (at == to) {
            if (bestCost == NONE || cost < bestCost || cost == bestCost && firstHop < bestHop) {
                bestCost = cost;
                bestHop = firstHop;
            }
            return;
        }
        News here = viewer.known.get(at);
        if (here == null) {
            return;
        }
        for (int hop : here.costs.keySet()) {
            News there = viewer.known.get(hop);
            if ((been >> hop & 1) == 0 && there != null && there.costs.containsKey(at)) {
                walk(viewer, hop, to, been | 1 << hop, cost + here.costs.get(hop), firstHop == NONE ? hop : firstHop);
            }
        }
    }

    private boolean joined(int a, int b, int been) {
        if (a == b) {
            return true;
        }
        for (Link link : carrying(a)) {
            int other = link.other(a);
            if ((been >> other & 1) == 0 && joined(other, b, been | 1 << a)) {
                return true;
            }
        }
        return false;
    }
}
