/** Promises 12 and 13: send and packet, and what the terms say of packets; the bounds are in BoundsTest. */
public final class PacketsTest {

    private static final Check CHECK = new Check("PacketsTest");

    public static void main(String[] args) {
        deliveredAtOnce();
        deliveredFromHopToHop();
        lifeAndHops();
        expiredBeforeLost();
        lostWithoutAWay();
        lostOnItsWay();
        goesByWhatEachNodeKnowsThen();
        longWay();
        theLongestTrace();
        lostWithItsLink();
        lostWithANodeOfItsLink();
        CHECK.end();
    }

    private static void deliveredAtOnce() {
        CHECK.sentence("When it is at a node v (sent or arrived): if that is where it goes, it is DELIVERED");
        FloodingNet net = Nets.nodes(1);
        net.send(0, 0, 0);
        CHECK.due("delivered, though its life is 0", net.packet(0, 0), 1);
        CHECK.due("its life", net.packet(0, 1), 0);
        CHECK.due("its trace", net.packet(0, 2), 1);
        CHECK.due("the node", net.packet(0, 10), 0);
        CHECK.due("no other", net.packet(0, 11), -1);
    }

    private static void deliveredFromHopToHop() {
        CHECK.sentence("its life becomes one less, and it arrives at the next hop by the link's delay");
        FloodingNet net = Nets.nodes(3);
        net.link(0, 1, 1, 2);
        net.link(1, 2, 1, 3);
        net.tick(10);
        net.send(0, 2, 2);
        CHECK.due("under way", net.packet(0, 0), 0);
        CHECK.due("life", net.packet(0, 1), 1);
        CHECK.due("trace", net.packet(0, 2), 1);
        net.tick(1);
        CHECK.due("not yet at 1", net.packet(0, 2), 1);
        net.tick(1);
        CHECK.due("at 1 and on", net.packet(0, 2), 2);
        CHECK.due("life", net.packet(0, 1), 0);
        CHECK.due("under way", net.packet(0, 0), 0);
        net.tick(2);
        CHECK.due("not yet at 2", net.packet(0, 0), 0);
        net.tick(1);
        CHECK.due("delivered", net.packet(0, 0), 1);
        CHECK.due("trace", net.packet(0, 2), 3);
        CHECK.due("first", net.packet(0, 10), 0);
        CHECK.due("second", net.packet(0, 11), 1);
        CHECK.due("third", net.packet(0, 12), 2);
        CHECK.due("fourth", net.packet(0, 13), -1);
        net.tick(10);
        CHECK.due("it stays there", net.packet(0, 2), 3);
        net.crash(2);
        CHECK.due("what is delivered is not lost", net.packet(0, 0), 1);
    }

    private static void lifeAndHops() {
        CHECK.sentence("if that is where it goes, it is DELIVERED; otherwise, if its life is 0, it has EXPIRED");
        FloodingNet net = Nets.row(4);
        for (int life = 0; life <= 4; life++) {
            net.send(0, 3, life);
        }
        CHECK.due("of life 0: expired at once", net.packet(0, 0), 2);
        CHECK.due("of life 1: under way", net.packet(1, 0), 0);
        net.tick(3);
        for (int life = 0; life <= 2; life++) {
            CHECK.due("of life " + life + ": expired", net.packet(life, 0), 2);
            CHECK.due("of life " + life + ": its life", net.packet(life, 1), 0);
            CHECK.due("of life " + life + ": how many nodes", net.packet(life, 2), life + 1);
            CHECK.due("of life " + life + ": the last one", net.packet(life, 10 + life), life);
        }
        CHECK.due("of life 3: delivered with life 0", net.packet(3, 0), 1);
        CHECK.due("of life 3: its life", net.packet(3, 1), 0);
        CHECK.due("of life 4: delivered", net.packet(4, 0), 1);
        CHECK.due("of life 4: its life", net.packet(4, 1), 1);
    }

    private static void expiredBeforeLost() {
        CHECK.sentence("otherwise, if its life is 0, it has EXPIRED; otherwise, if v knows no way .. it is LOST there");
        FloodingNet net = Nets.row(2);
        net.send(0, 5, 0);
        net.send(0, 5, 1);
        CHECK.due("of life 0 without a way", net.packet(0, 0), 2);
        CHECK.due("of life 1 without a way", net.packet(1, 0), 3);
        CHECK.due("its life is as it was", net.packet(1, 1), 1);
    }

    private static void lostWithoutAWay() {
        CHECK.sentence("if v knows no way .. it is LOST there");
        FloodingNet net = Nets.row(2);
        net.send(0, 5, 4);
        CHECK.due("lost", net.packet(0, 0), 3);
        CHECK.due("its life is as it was", net.packet(0, 1), 4);
        CHECK.due("its trace", net.packet(0, 2), 1);
        CHECK.due("the node", net.packet(0, 10), 0);
    }

    private static void lostOnItsWay() {
        CHECK.sentence("When it is at a node v (.. arrived): .. if v knows no way .. it is LOST there");
        FloodingNet net = Nets.row(3);
        net.crash(2);
        CHECK.due("0 has not heard that 2 is gone", net.next(0, 2), 1);
        net.send(0, 2, 5);
        CHECK.due("under way", net.packet(0, 0), 0);
        net.tick(1);
        CHECK.due("lost at 1", net.packet(0, 0), 3);
        CHECK.due("its life", net.packet(0, 1), 4);
        CHECK.due("its trace", net.packet(0, 2), 2);
        CHECK.due("the last one", net.packet(0, 11), 1);
    }

    private static void goesByWhatEachNodeKnowsThen() {
        CHECK.sentence("packets that go from hop to hop by what the nodes know at that time");
        FloodingNet net = Nets.diamond();
        net.send(0, 3, 9);
        CHECK.due("0 sends it over 1", net.next(0, 3), 1);
        net.fail(1, 3);
        net.tick(1);
        // 1 knows that its link failed: the way is back over 0 and 2.
        CHECK.due("1 sends it back", net.next(1, 3), 0);
        net.tick(3);
        CHECK.due("delivered", net.packet(0, 0), 1);
        int[] trace = {0, 1, 0, 2, 3};
        CHECK.due("trace", net.packet(0, 2), trace.length);
        for (int i = 0; i < trace.length; i++) {
            CHECK.due("trace " + i, net.packet(0, 10 + i), trace[i]);
        }
        CHECK.due("life", net.packet(0, 1), 5);
    }

    private static void longWay() {
        CHECK.sentence("Its TRACE has the nodes where it was, the first one too.");
        FloodingNet net = Nets.row(8);
        net.send(0, 7, 30);
        net.tick(7);
        CHECK.due("delivered after seven hops", net.packet(0, 0), 1);
        CHECK.due("life", net.packet(0, 1), 23);
        CHECK.due("trace", net.packet(0, 2), 8);
        for (int i = 0; i < 8; i++) {
            CHECK.due("trace " + i, net.packet(0, 10 + i), i);
        }
        CHECK.due("none after it", net.packet(0, 18), -1);
    }

    /**
     * The link 1 - 2 is down whenever the packet is at 1, so that it goes back to 0. It comes up again before 0
     * can hear of that, as the later news takes the place of the earlier: so 0 always sends the packet to 1.
     */
    private static void theLongestTrace() {
        CHECK.sentence("a life 0 .. 30; Its TRACE has the nodes where it was, the first one too.");
        FloodingNet net = Nets.nodes(3);
        net.link(0, 1, 1, 2);
        net.link(1, 2, 1, 8);
        net.link(0, 2, 50, 2);
        net.tick(10);
        net.fail(1, 2);
        net.send(1, 2, 30);
        net.restore(1, 2);
        for (int back = 0; back < 15; back++) {
            CHECK.due("under way", net.packet(0, 0), 0);
            CHECK.due("life", net.packet(0, 1), 29 - 2 * back);
            CHECK.due("trace", net.packet(0, 2), 1 + 2 * back);
            net.tick(3);
            net.fail(1, 2);
            net.tick(1);
            net.restore(1, 2);
        }
        CHECK.due("expired", net.packet(0, 0), 2);
        CHECK.due("life", net.packet(0, 1), 0);
        CHECK.due("trace", net.packet(0, 2), 31);
        for (int i = 0; i <= 30; i++) {
            CHECK.due("trace " + i, net.packet(0, 10 + i), 1 - i % 2);
        }
        CHECK.due("none after it", net.packet(0, 41), -1);
    }

    /** A packet from 0 over 1 to 2, with links of delay 3, after so many ticks. */
    private static FloodingNet packetAfter(int ticks) {
        FloodingNet net = Nets.nodes(4);
        net.link(0, 1, 1, 3);
        net.link(1, 2, 1, 3);
        net.tick(20);
        net.send(0, 2, 9);
        net.tick(ticks);
        return net;
    }

    private static void lostWithItsLink() {
        CHECK.sentence("One that is under way on a link that goes down .. is LOST.");
        FloodingNet before = packetAfter(2);
        before.fail(1, 0);
        CHECK.due("before it is at 1, 0 - 1 fails", before.packet(0, 0), 3);
        FloodingNet ahead = packetAfter(2);
        ahead.fail(1, 2);
        CHECK.due("before it is at 1, 1 - 2 fails", ahead.packet(0, 0), 0);
        ahead.tick(1);
        CHECK.due("at 1 there is no way", ahead.packet(0, 0), 3);
        CHECK.due("at 1 there is no way", ahead.packet(0, 2), 2);
        FloodingNet behind = packetAfter(3);
        behind.fail(0, 1);
        CHECK.due("when it has been at 1, 0 - 1 fails", behind.packet(0, 0), 0);
        behind.tick(3);
        CHECK.due("delivered", behind.packet(0, 0), 1);
        FloodingNet on = packetAfter(3);
        on.fail(1, 2);
        CHECK.due("when it has been at 1, 1 - 2 fails", on.packet(0, 0), 3);
        CHECK.due("its trace", on.packet(0, 2), 2);
        on.restore(1, 2);
        on.tick(10);
        CHECK.due("lost it stays", on.packet(0, 0), 3);
        FloodingNet after = packetAfter(6);
        after.fail(1, 2);
        CHECK.due("when it is delivered, 1 - 2 fails", after.packet(0, 0), 1);
    }

    private static void lostWithANodeOfItsLink() {
        CHECK.sentence("One that is under way on a link .. whose node goes, is LOST.");
        int[][] states = {{3, 3, 0, 0}, {0, 3, 3, 0}, {1, 1, 1, 1}};
        for (int leg = 0; leg < 3; leg++) {
            for (int gone = 0; gone < 4; gone++) {
                FloodingNet net = packetAfter(2 + 2 * leg);
                net.crash(gone);
                CHECK.due("after " + (2 + 2 * leg) + " ticks " + gone + " goes", net.packet(0, 0), states[leg][gone]);
                net.start(gone);
                net.tick(1);
                CHECK.due("what was lost stays", net.packet(0, 0) == 3, states[leg][gone] == 3);
            }
        }
    }
}
