/** Promises 5 and 6: start and crash. */
public final class NodesTest {

    private static final Check CHECK = new Check("NodesTest");

    public static void main(String[] args) {
        aloneNodeTellsItself();
        neighboursTellFirst();
        neighboursSendAllTheyKnow();
        oldNewsOfTheComingNodeIsOutnumbered();
        newsOfTheSameNumberIsTakenForTheSame();
        crashForgets();
        crashEmptiesLinks();
        crashLosesPackets();
        crashMakesNeighboursTell();
        crashWithoutLinksThatCarry();
        CHECK.end();
    }

    private static void aloneNodeTellsItself() {
        FloodingNet net = new FloodingNet();
        CHECK.due("start(5)", net.start(5), true);
        CHECK.due("its number", net.news(5, 5, 0), 1);
        CHECK.due("its age", net.news(5, 5, 1), 0);
        CHECK.due("its costs", net.news(5, 5, 2), 0);
        CHECK.due("start(5) again", net.start(5), false);
        CHECK.due("its number still", net.news(5, 5, 0), 1);
    }

    private static void neighboursTellFirst() {
        FloodingNet net = Nets.nodes(2);
        net.link(0, 2, 3, 1);
        net.link(1, 2, 4, 1);
        net.link(3, 2, 5, 1);
        CHECK.due("start(2)", net.start(2), true);
        CHECK.due("0 told", net.news(0, 0, 0), 2);
        CHECK.due("1 told", net.news(1, 1, 0), 2);
        CHECK.due("2 told once", net.news(2, 2, 0), 1);
        CHECK.due("2 tells of two links", net.news(2, 2, 2), 2);
        CHECK.due("2 tells 3 for 0", net.news(2, 2, 10), 3);
        CHECK.due("2 tells 4 for 1", net.news(2, 2, 11), 4);
        CHECK.due("2 tells none for 3, which is not there", net.news(2, 2, 13), 0);
        CHECK.due("flying", net.flying(), 4);
    }

    private static void neighboursSendAllTheyKnow() {
        FloodingNet net = Nets.row(3);
        net.link(2, 3, 1, 2);
        net.start(3);
        // 2 tells 1 and 3, 3 tells 2, and 2 sends 3 its news of 0 and of 1.
        CHECK.due("flying", net.flying(), 5);
        net.tick(2);
        CHECK.due("3 knows of 0", net.news(3, 0, 0), 2);
        CHECK.due("3 knows a way to 0", net.distance(3, 0), 3);
    }

    private static void oldNewsOfTheComingNodeIsOutnumbered() {
        FloodingNet net = Nets.row(3);
        CHECK.due("1 has told three times", net.news(1, 1, 0), 3);
        net.crash(1);
        net.start(1);
        CHECK.due("1 begins with 1 again", net.news(1, 1, 0), 1);
        // 0 and 2 tell 1, 1 tells 0 and 2; then 0 and 2 each send 1 the old news of 1 and of the other.
        CHECK.due("flying", net.flying(), 8);
        net.tick(1);
        CHECK.due("1 took the number 3 and told", net.news(1, 1, 0), 4);
        CHECK.due("0 still knows the old news", net.news(0, 1, 0), 3);
        net.tick(1);
        CHECK.due("0 knows the new news", net.news(0, 1, 0), 4);
        CHECK.due("2 knows the new news", net.news(2, 1, 0), 4);
        net.tick(3);
        CHECK.due("1 told no more", net.news(1, 1, 0), 4);
        CHECK.due("settled", net.settled(), true);
    }

    private static void newsOfTheSameNumberIsTakenForTheSame() {
        FloodingNet net = Nets.nodes(2);
        net.link(0, 1, 1, 1);
        net.tick(1);
        net.fail(0, 1);
        net.tick(1);
        net.crash(1);
        net.start(1);
        net.restore(0, 1);
        // The old news of 1 that 0 knows and the new one both have the number 2.
        CHECK.due("1 made its number 2", net.news(1, 1, 0), 2);
        net.tick(1);
        CHECK.due("0 keeps what it knows", net.news(0, 1, 1), 3);
        CHECK.due("1 did not tell again", net.news(1, 1, 0), 2);
        CHECK.due("settled all the same", net.settled(), true);
    }

    private static void crashForgets() {
        FloodingNet net = Nets.row(3);
        CHECK.due("crash(1)", net.crash(1), true);
        for (int other = 0; other < 8; other++) {
            CHECK.due("1 knows nothing", net.news(1, other, 0), -1);
            CHECK.due("1 has no distance", net.distance(1, other), -1);
            CHECK.due("1 has no next hop", net.next(1, other), -1);
        }
        CHECK.due("0 still knows of 1", net.news(0, 1, 0), 3);
        CHECK.due("crash(1) again", net.crash(1), false);
        net.start(1);
        CHECK.due("1 knows itself alone", net.news(1, 0, 0), -1);
    }

    private static void crashEmptiesLinks() {
        FloodingNet net = Nets.nodes(4);
        net.link(0, 1, 1, 8);
        net.link(1, 2, 1, 8);
        net.link(2, 3, 1, 8);
        CHECK.due("flying before", net.flying(), 6);
        net.crash(1);
        CHECK.due("only between 2 and 3", net.flying(), 2);
        net.tick(8);
        CHECK.due("0 never heard of 1", net.news(0, 1, 0), -1);
        CHECK.due("2 never heard of 1", net.news(2, 1, 0), -1);
    }

    private static void crashLosesPackets() {
        FloodingNet net = Nets.nodes(4);
        net.link(0, 1, 1, 4);
        net.link(1, 2, 1, 4);
        net.link(2, 3, 1, 4);
        net.tick(20);
        net.send(0, 3, 9);
        net.send(1, 2, 9);
        net.send(2, 3, 9);
        net.tick(1);
        net.crash(1);
        CHECK.due("one under way to 1 is lost", net.packet(0, 0), 3);
        CHECK.due("one under way from 1 is lost", net.packet(1, 0), 3);
        CHECK.due("one elsewhere goes on", net.packet(2, 0), 0);
        net.start(1);
        net.tick(3);
        CHECK.due("still lost when 1 is there again", net.packet(0, 0), 3);
        CHECK.due("the one elsewhere arrives", net.packet(2, 0), 1);
    }

    private static void crashMakesNeighboursTell() {
        FloodingNet net = Nets.row(4);
        int before0 = net.news(0, 0, 0);
        int before2 = net.news(2, 2, 0);
        int before3 = net.news(3, 3, 0);
        net.crash(1);
        CHECK.due("0 told", net.news(0, 0, 0), before0 + 1);
        CHECK.due("2 told", net.news(2, 2, 0), before2 + 1);
        CHECK.due("3 has no link to 1", net.news(3, 3, 0), before3);
        CHECK.due("0 tells no cost", net.news(0, 0, 2), 0);
        CHECK.due("2 tells of 3 alone", net.news(2, 2, 2), 1);
        CHECK.due("one piece flies, from 2 to 3", net.flying(), 1);
        net.tick(1);
        CHECK.due("3 knows no way to 1", net.distance(3, 1), -1);
    }

    private static void crashWithoutLinksThatCarry() {
        FloodingNet net = Nets.nodes(3);
        net.link(0, 1, 1, 1);
        net.link(1, 2, 1, 1);
        net.tick(5);
        net.fail(0, 1);
        int before = net.news(0, 0, 0);
        net.crash(1);
        CHECK.due("0, whose link was down, did not tell", net.news(0, 0, 0), before);
        net.crash(2);
        CHECK.due("nothing flies", net.flying(), 0);
    }
}
