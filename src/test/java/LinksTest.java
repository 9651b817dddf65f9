/** Promises 1 to 4: a new object, link, fail, restore. */
public final class LinksTest {

    private static final Check CHECK = new Check("LinksTest");

    public static void main(String[] args) {
        newObject();
        linkCounts();
        linkRefusesWrongArguments();
        linkRefusesInWrongState();
        linkTestsArgumentsFirst();
        linkThatThrowsChangesNothing();
        linkComesUp();
        linkExchangesDatabases();
        linkWithoutBothNodesIsSilent();
        failTellsAndEmpties();
        failLosesPackets();
        failOfALinkThatDoesNotCarry();
        failAndRestoreNeedALink();
        restoreTellsAndExchanges();
        restoreOfALinkThatDoesNotCarry();
        CHECK.end();
    }

    private static void newObject() {
        FloodingNet net = new FloodingNet();
        CHECK.due("NONE", FloodingNet.NONE, -1);
        for (int node = 0; node < 8; node++) {
            CHECK.due("new: news(n, n, 0)", net.news(node, node, 0), -1);
            CHECK.due("new: distance(n, n)", net.distance(node, node), -1);
            CHECK.due("new: crash(n)", net.crash(node), false);
        }
        CHECK.due("new: flying()", net.flying(), 0);
        CHECK.due("new: settled()", net.settled(), true);
        CHECK.due("new: packet(0, 0)", net.packet(0, 0), -1);
        CHECK.wrongArgument("new: fail(0, 1)", () -> net.fail(0, 1));
        CHECK.due("new: tick(1)", net.tick(1), 1);
        CHECK.due("new: link(6, 7, 1, 1)", net.link(6, 7, 1, 1), 1);
        CHECK.due("two objects share nothing", new FloodingNet().tick(1), 1);
    }

    private static void linkCounts() {
        FloodingNet net = new FloodingNet();
        CHECK.due("link(0, 1, 1, 1)", net.link(0, 1, 1, 1), 1);
        CHECK.due("link(2, 1, 50, 8)", net.link(2, 1, 50, 8), 2);
        CHECK.due("link(7, 0, 50, 1)", net.link(7, 0, 50, 1), 3);
        CHECK.due("a failed link counts: fail(0, 1)", net.fail(0, 1), true);
        CHECK.due("link(7, 1, 1, 8)", net.link(7, 1, 1, 8), 4);
    }

    private static void linkRefusesWrongArguments() {
        FloodingNet net = new FloodingNet();
        int[][] wrong = {
            {-1, 0, 1, 1}, {8, 0, 1, 1}, {0, -1, 1, 1}, {0, 8, 1, 1}, {3, 3, 1, 1},
            {0, 1, 0, 1}, {0, 1, 51, 1}, {0, 1, 1, 0}, {0, 1, 1, 9}, {0, 1, -5, 1}, {0, 1, 1, -5},
            {Integer.MIN_VALUE, 1, 1, 1}, {Integer.MAX_VALUE, 1, 1, 1}, {1, Integer.MIN_VALUE, 1, 1},
            {0, 1, Integer.MIN_VALUE, 1}, {0, 1, 1, Integer.MAX_VALUE},
        };
        for (int[] w : wrong) {
            CHECK.wrongArgument("link" + java.util.Arrays.toString(w), () -> net.link(w[0], w[1], w[2], w[3]));
        }
        CHECK.due("none was made", net.link(0, 1, 1, 1), 1);
    }

    private static void linkRefusesInWrongState() {
        FloodingNet net = new FloodingNet();
        net.link(0, 1, 1, 1);
        CHECK.wrongState("the same link again", () -> net.link(0, 1, 2, 2));
        CHECK.wrongState("the same link the other way", () -> net.link(1, 0, 1, 1));
        net.fail(0, 1);
        CHECK.wrongState("a link that is down is there", () -> net.link(0, 1, 1, 1));

        FloodingNet full = Nets.full();
        CHECK.wrongState("a 13th link", () -> full.link(2, 3, 1, 1));
        CHECK.wrongState("one of the twelve again", () -> full.link(0, 1, 1, 1));
    }

    private static void linkTestsArgumentsFirst() {
        FloodingNet full = Nets.full();
        CHECK.wrongArgument("13th with cost 0", () -> full.link(2, 3, 0, 1));
        CHECK.wrongArgument("again with delay 9", () -> full.link(0, 1, 1, 9));
        CHECK.wrongArgument("13th from 2 to 2", () -> full.link(2, 2, 1, 1));
    }

    private static void linkThatThrowsChangesNothing() {
        FloodingNet net = Nets.row(2);
        CHECK.wrongState("link(0, 1, 9, 9) again", () -> net.link(0, 1, 9, 8));
        CHECK.wrongArgument("link(0, 1, 0, 1)", () -> net.link(0, 1, 0, 1));
        CHECK.due("nobody told", net.news(0, 0, 0), 2);
        CHECK.due("nothing flies", net.flying(), 0);
        net.crash(1);
        net.start(1);
        CHECK.due("the cost is as it was", net.news(0, 0, 11), 1);
        net.tick(1);
        CHECK.due("the delay is as it was", net.news(1, 0, 0), 4);
    }

    private static void linkComesUp() {
        FloodingNet net = Nets.nodes(2);
        net.link(1, 0, 7, 3);
        CHECK.due("0 told", net.news(0, 0, 0), 2);
        CHECK.due("1 told", net.news(1, 1, 0), 2);
        CHECK.due("0 tells the cost", net.news(0, 0, 11), 7);
        CHECK.due("1 tells the cost", net.news(1, 1, 10), 7);
        CHECK.due("both fly", net.flying(), 2);
        net.tick(2);
        CHECK.due("not there before the delay", net.news(1, 0, 0), -1);
        net.tick(1);
        CHECK.due("there by the delay", net.news(1, 0, 0), 2);
        CHECK.due("and the other way", net.news(0, 1, 0), 2);
        CHECK.due("nothing flies", net.flying(), 0);
    }

    private static void linkExchangesDatabases() {
        FloodingNet net = Nets.nodes(4);
        net.link(0, 1, 1, 1);
        net.link(2, 3, 1, 1);
        net.tick(1);
        net.link(2, 1, 1, 1);
        // 1 tells 0 and 2, 2 tells 1 and 3, 1 sends 2 its news of 0, 2 sends 1 its news of 3.
        CHECK.due("flying after the exchange", net.flying(), 6);
        net.tick(1);
        CHECK.due("2 knows of 0", net.news(2, 0, 0), 2);
        CHECK.due("1 knows of 3", net.news(1, 3, 0), 2);
        CHECK.due("with its age", net.news(2, 0, 1), 2);
        CHECK.due("0 knows nothing of 3 yet", net.news(0, 3, 0), -1);
        net.tick(1);
        CHECK.due("0 knows of 3", net.news(0, 3, 0), 2);
    }

    private static void linkWithoutBothNodesIsSilent() {
        FloodingNet net = new FloodingNet();
        net.start(0);
        CHECK.due("link(0, 1, 1, 1)", net.link(0, 1, 1, 1), 1);
        CHECK.due("0 did not tell", net.news(0, 0, 0), 1);
        CHECK.due("0 has no cost", net.news(0, 0, 2), 0);
        CHECK.due("nothing flies", net.flying(), 0);
        CHECK.due("it is up", net.restore(0, 1), false);
    }

    private static void failTellsAndEmpties() {
        FloodingNet net = Nets.nodes(3);
        net.link(0, 1, 1, 8);
        net.link(1, 2, 1, 8);
        CHECK.due("flying before", net.flying(), 4);
        CHECK.due("fail(1, 0)", net.fail(1, 0), true);
        CHECK.due("what flew between 0 and 1 is gone", net.flying(), 2);
        CHECK.due("0 told", net.news(0, 0, 0), 3);
        CHECK.due("0 tells no cost", net.news(0, 0, 2), 0);
        CHECK.due("1 told", net.news(1, 1, 0), 4);
        CHECK.due("1 tells one cost", net.news(1, 1, 2), 1);
        CHECK.due("1 tells none for 0", net.news(1, 1, 10), 0);
        CHECK.due("fail(0, 1) again", net.fail(0, 1), false);
        CHECK.due("nobody told again", net.news(0, 0, 0), 3);
        net.tick(8);
        CHECK.due("0 never heard of 1", net.news(0, 1, 0), -1);
        CHECK.due("2 heard of 1", net.news(2, 1, 0), 4);
    }

    private static void failLosesPackets() {
        FloodingNet net = Nets.nodes(3);
        net.link(0, 1, 1, 5);
        net.link(1, 2, 1, 5);
        net.tick(20);
        net.send(0, 1, 3);
        net.send(1, 0, 3);
        net.send(1, 2, 3);
        net.tick(2);
        net.fail(0, 1);
        CHECK.due("the packet from 0 is lost", net.packet(0, 0), 3);
        CHECK.due("the packet from 1 is lost", net.packet(1, 0), 3);
        CHECK.due("the packet on another link goes on", net.packet(2, 0), 0);
        CHECK.due("its life is one less", net.packet(0, 1), 2);
        CHECK.due("its trace ends before the link", net.packet(0, 2), 1);
        net.tick(10);
        CHECK.due("a lost packet stays lost", net.packet(0, 0), 3);
        CHECK.due("the other one arrives", net.packet(2, 0), 1);
    }

    private static void failOfALinkThatDoesNotCarry() {
        FloodingNet net = new FloodingNet();
        net.start(1);
        net.link(0, 1, 1, 1);
        CHECK.due("fail(0, 1)", net.fail(0, 1), true);
        CHECK.due("1 did not tell", net.news(1, 1, 0), 1);
        CHECK.due("fail(0, 1) again", net.fail(0, 1), false);
        net.start(0);
        CHECK.due("a link that is down tells no cost", net.news(0, 0, 2), 0);
        CHECK.due("1 still did not tell", net.news(1, 1, 0), 1);
        CHECK.due("nothing flies", net.flying(), 0);
    }

    private static void failAndRestoreNeedALink() {
        FloodingNet net = Nets.row(2);
        int[][] wrong = {
            {0, 2}, {2, 3}, {0, 0}, {1, 1}, {-1, 0}, {0, -1}, {8, 0}, {0, 8}, {-1, 16}, {1, -7},
            {Integer.MIN_VALUE, 0}, {0, Integer.MAX_VALUE},
        };
        for (int[] w : wrong) {
            CHECK.wrongArgument("fail" + java.util.Arrays.toString(w), () -> net.fail(w[0], w[1]));
            CHECK.wrongArgument("restore" + java.util.Arrays.toString(w), () -> net.restore(w[0], w[1]));
        }
        CHECK.due("nobody told", net.news(0, 0, 0), 2);
    }

    private static void restoreTellsAndExchanges() {
        FloodingNet net = Nets.row(4);
        CHECK.due("restore(1, 2) of a link that is up", net.restore(1, 2), false);
        CHECK.due("nobody told", net.news(1, 1, 0), 3);
        net.fail(1, 2);
        net.tick(5);
        net.link(4, 0, 1, 1);
        net.start(4);
        net.tick(5);
        CHECK.due("3 knows nothing of 4", net.news(3, 4, 0), -1);
        CHECK.due("restore(2, 1)", net.restore(2, 1), true);
        CHECK.due("1 told", net.news(1, 1, 0), 5);
        CHECK.due("2 told", net.news(2, 2, 0), 5);
        // 1 tells 0 and 2, 2 tells 1 and 3; 1 sends also its news of 0, 2, 3, 4, and 2 that of 0, 1, 3.
        CHECK.due("flying", net.flying(), 11);
        CHECK.due("restore(1, 2) again", net.restore(1, 2), false);
        net.tick(2);
        CHECK.due("3 knows of 4", net.news(3, 4, 0), 1);
        CHECK.due("3 knows a way to 4", net.distance(3, 4), 4);
    }

    private static void restoreOfALinkThatDoesNotCarry() {
        FloodingNet net = new FloodingNet();
        net.start(0);
        net.link(0, 1, 4, 1);
        net.fail(0, 1);
        CHECK.due("restore(0, 1)", net.restore(0, 1), true);
        CHECK.due("0 did not tell", net.news(0, 0, 0), 1);
        net.start(1);
        CHECK.due("it carries when 1 comes", net.news(0, 0, 11), 4);
    }
}
