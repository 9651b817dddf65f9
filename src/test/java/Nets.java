/** Nets that several tests begin with. */
final class Nets {

    private Nets() {
    }

    /** Nodes 0 .. count - 1 are there; no links. */
    static FloodingNet nodes(int count) {
        FloodingNet net = new FloodingNet();
        for (int node = 0; node < count; node++) {
            net.start(node);
        }
        return net;
    }

    /** Nodes 0 .. count - 1 in a row, each linked to the next with cost and delay 1; settled. */
    static FloodingNet row(int count) {
        FloodingNet net = nodes(count);
        for (int node = 0; node + 1 < count; node++) {
            net.link(node, node + 1, 1, 1);
        }
        net.tick(10);
        return net;
    }

    /** 0 to 3 over 1 (costs 1 and 5) or over 2 (costs 2 and 4), delays 1; settled. */
    static FloodingNet diamond() {
        FloodingNet net = nodes(4);
        net.link(0, 1, 1, 1);
        net.link(1, 3, 5, 1);
        net.link(0, 2, 2, 1);
        net.link(2, 3, 4, 1);
        net.tick(10);
        return net;
    }

    /** Twelve links, all of node 0 and five of node 1; no node is there. */
    static FloodingNet full() {
        FloodingNet net = new FloodingNet();
        for (int other = 1; other <= 7; other++) {
            net.link(0, other, 1, 1);
        }
        for (int other = 2; other <= 6; other++) {
            net.link(1, other, 1, 1);
        }
        return net;
    }
}
