/** Promises 2 to 4: link, fail, restore. */
public final class LinksTest {

    private static final Check CHECK = new Check("LinksTest");

    public static void main(String[] args) {
        linkComesUp();
        linkExchangesDatabases();
        linkWithoutBothNodesIsSilent();
        failTellsAndEmpties();
        failLosesPackets();
        failOfALinkThatDoesNotCarry();
        restoreTellsAndExchanges();
        restoreOfALinkThatDoesNotCarry();
        CHECK.end();
    }

    private static void linkComesUp() {
        FloodingNet net = Nets.nodes(2);
        net.link(1, 0, 7, 3);
        CHECK.due("0 told", net.news(0, 0, 0), 2);
        CHECK.due("1 told", net.news(1, 1, 0), 2);
        CHECK.due("0 tells the cost", net.news(0, 0, 11), 7);
        CHECK.due("1 tells the cost", net.news(1, 1, 10), 7);
        CHECK.due("both fly", net.flying(), 2);
        net.tick(2);
        CHECK.due("not there before the delay", net.news(1, 0, 0), -1);
        net.tick(1);
        CHECK.due("there by the delay", net.news(1, 0, 0), 2);
        CHECK.due("and the other way", net.news(0, 1, 0), 2);
        CHECK.due("nothing flies", net.flying(), 0);
    }

    private static void linkExchangesDatabases() {
        FloodingNet net = Nets.nodes(4);
        net.link(0, 1, 1, 1);
        net.link(2, 3, 1, 1);
        net.tick(1);
        net.link(2, 1, 1, 1);
        // 1 tells 0 and 2, 2 tells 1 and 3, 1 sends 2 its news of 0, 2 sends 1 its news of 3.
        CHECK.due("flying after the exchange", net.flying(), 6);
        net.tick(1);
        CHECK.due("2 knows of 0", net.news(2, 0, 0), 2);
        CHECK.due("1 knows of 3", net.news(1, 3, 0), 2);
        CHECK.due("with its age", net.news(2, 0, 1), 2);
        CHECK.due("0 knows nothing of 3 yet", net.news(0, 3, 0), -1);
        net.tick(1);
        CHECK.due("0 knows of 3", net.news(0, 3, 0), 2);
    }

    private static void linkWithoutBothNodesIsSilent() {
        FloodingNet net = new FloodingNet();
        net.start(0);
        CHECK.due("link(0, 1, 1, 1)", net.link(0, 1, 1, 1), 1);
        CHECK.due("0 did not tell", net.news(0, 0, 0), 1);
        CHECK.due("0 has no cost", net.news(0, 0, 2), 0);
        CHECK.due("nothing flies", net.flying(), 0);
        CHECK.due("it is up", net.restore(0, 1), false);
    }

    private static void failTellsAndEmpties() {
        FloodingNet net = Nets.nodes(3);
        net.link(0, 1, 1, 8);
        net.link(1, 2, 1, 8);
        CHECK.due("flying before", net.flying(), 4);
        CHECK.due("fail(1, 0)", net.fail(1, 0), true);
        CHECK.due("what flew between 0 and 1 is gone", net.flying(), 2);
        CHECK.due("0 told", net.news(0, 0, 0), 3);
        CHECK.due("0 tells no cost", net.news(0, 0, 2), 0);
        CHECK.due("1 told", net.news(1, 1, 0), 4);
        CHECK.due("1 tells one cost", net.news(1, 1, 2), 1);
        CHECK.due("1 tells none for 0", net.news(1, 1, 10), 0);
        CHECK.due("fail(0, 1) again", net.fail(0, 1), false);
        CHECK.due("nobody told again", net.news(0, 0, 0), 3);
        net.tick(8);
        CHECK.due("0 never heard of 1", net.news(0, 1, 0), -1);
        CHECK.due("2 heard of 1", net.news(2, 1, 0), 4);
    }

    private static void failLosesPackets() {
        FloodingNet net = Nets.nodes(3);
        net.link(0, 1, 1, 5);
        net.link(1, 2, 1, 5);
        net.tick(20);
        net.send(0, 1, 3);
        net.send(1, 0, 3);
        net.send(1, 2, 3);
        net.tick(2);
        net.fail(0, 1);
        CHECK.due("the packet from 0 is lost", net.packet(0, 0), 3);
        CHECK.due("the packet from 1 is lost", net.packet(1, 0), 3);
        CHECK.due("the packet on another link goes on", net.packet(2, 0), 0);
        CHECK.due("its life is one less", net.packet(0, 1), 2);
        CHECK.due("its trace ends before the link", net.packet(0, 2), 1);
        net.tick(10);
        CHECK.due("a lost packet stays lost", net.packet(0, 0), 3);
        CHECK.due("the other one arrives", net.packet(2, 0), 1);
    }

    private static void failOfALinkThatDoesNotCarry() {
        FloodingNet net = new FloodingNet();
        net.start(1);
        net.link(0, 1, 1, 1);
        CHECK.due("fail(0, 1)", net.fail(0, 1), true);
        CHECK.due("1 did not tell", net.news(1, 1, 0), 1);
        CHECK.due("fail(0, 1) again", net.fail(0, 1), false);
        net.start(0);
        CHECK.due("a link that is down tells no cost", net.news(0, 0, 2), 0);
        CHECK.due("1 still did not tell", net.news(1, 1, 0), 1);
        CHECK.due("nothing flies", net.flying(), 0);
    }

    private static void restoreTellsAndExchanges() {
        FloodingNet net = Nets.row(4);
        CHECK.due("restore(1, 2) of a link that is up", net.restore(1, 2), false);
        CHECK.due("nobody told", net.news(1, 1, 0), 3);
        net.fail(1, 2);
        net.tick(5);
        net.link(4, 0, 1, 1);
        net.start(4);
        net.tick(5);
        CHECK.due("3 knows nothing of 4", net.news(3, 4, 0), -1);
        CHECK.due("restore(2, 1)", net.restore(2, 1), true);
        CHECK.due("1 told", net.news(1, 1, 0), 5);
        CHECK.due("2 told", net.news(2, 2, 0), 5);
        // 1 tells 0 and 2, 2 tells 1 and 3; 1 sends also its news of 0, 2, 3, 4, and 2 that of 0, 1, 3.
        CHECK.due("flying", net.flying(), 11);
        CHECK.due("restore(1, 2) again", net.restore(1, 2), false);
        net.tick(2);
        CHECK.due("3 knows of 4", net.news(3, 4, 0), 1);
        CHECK.due("3 knows a way to 4", net.distance(3, 4), 4);
    }

    private static void restoreOfALinkThatDoesNotCarry() {
        FloodingNet net = new FloodingNet();
        net.start(0);
        net.link(0, 1, 4, 1);
        net.fail(0, 1);
        CHECK.due("restore(0, 1)", net.restore(0, 1), true);
        CHECK.due("0 did not tell", net.news(0, 0, 0), 1);
        net.start(1);
        CHECK.due("it carries when 1 comes", net.news(0, 0, 11), 4);
    }
}
