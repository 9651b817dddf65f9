/** Promises 8 to 11 and 14: news, flying, distance, next, settled. */
public final class AnswersTest {

    private static final Check CHECK = new Check("AnswersTest");

    private static final int[] NO_NODES = {-1, 8, 64, Integer.MIN_VALUE, Integer.MAX_VALUE};

    public static void main(String[] args) {
        newsTellsAll();
        newsOfNothing();
        flyingCounts();
        distancesAndHops();
        hopIsTheLeastOfEqualWays();
        aStepNeedsBothEnds();
        waysGoByWhatTheNodeKnows();
        waysOfNothing();
        longestWay();
        settledNeedsNothingInFlight();
        settledLooksAtJoinedNodesAlone();
        settledNeedsTheSameNumbers();
        CHECK.end();
    }

    private static void newsTellsAll() {
        FloodingNet net = Nets.nodes(8);
        for (int other = 0; other < 7; other++) {
            net.link(7, other, 44 + other, 1);
        }
        net.tick(2);
        CHECK.due("number", net.news(0, 7, 0), 8);
        CHECK.due("age", net.news(0, 7, 1), 2);
        CHECK.due("how many costs", net.news(0, 7, 2), 7);
        for (int other = 0; other < 7; other++) {
            CHECK.due("cost for " + other, net.news(3, 7, 10 + other), 44 + other);
            CHECK.due("cost for 7", net.news(7, other, 17), 44 + other);
        }
        CHECK.due("no cost for itself", net.news(0, 7, 17), 0);
        CHECK.due("no cost for 2", net.news(0, 1, 12), 0);
    }

    private static void newsOfNothing() {
        FloodingNet net = Nets.row(2);
        for (int what : new int[] {-1, 3, 9, 18, 19, Integer.MIN_VALUE, Integer.MAX_VALUE}) {
            CHECK.due("news(0, 1, " + what + ")", net.news(0, 1, what), -1);
        }
        for (int no : NO_NODES) {
            CHECK.due("news(" + no + ", 0, 0)", net.news(no, 0, 0), -1);
            CHECK.due("news(0, " + no + ", 0)", net.news(0, no, 0), -1);
        }
        CHECK.due("an origin that is not known", net.news(0, 2, 0), -1);
        CHECK.due("of it no cost either", net.news(0, 2, 10), -1);
        CHECK.due("a node that is not there", net.news(2, 0, 0), -1);
    }

    private static void flyingCounts() {
        FloodingNet net = Nets.nodes(3);
        CHECK.due("without links", net.flying(), 0);
        net.link(0, 1, 1, 2);
        CHECK.due("one each way", net.flying(), 2);
        net.link(1, 2, 1, 3);
        CHECK.due("1 tells 0 anew and 2, 2 tells 1", net.flying(), 4);
        net.tick(2);
        CHECK.due("0 and 1 heard; 1 sends 0's news on", net.flying(), 3);
        net.tick(1);
        CHECK.due("2's news goes on to 0", net.flying(), 2);
        net.tick(2);
        CHECK.due("nothing", net.flying(), 0);
    }

    private static void distancesAndHops() {
        FloodingNet net = Nets.nodes(5);
        net.link(0, 1, 10, 1);
        net.link(0, 2, 3, 1);
        net.link(2, 1, 4, 1);
        net.link(1, 3, 2, 1);
        net.tick(10);
        CHECK.due("distance(0, 1)", net.distance(0, 1), 7);
        CHECK.due("next(0, 1)", net.next(0, 1), 2);
        CHECK.due("distance(0, 3)", net.distance(0, 3), 9);
        CHECK.due("next(0, 3)", net.next(0, 3), 2);
        CHECK.due("distance(3, 0)", net.distance(3, 0), 9);
        CHECK.due("next(3, 0)", net.next(3, 0), 1);
        CHECK.due("next(2, 3)", net.next(2, 3), 1);
        CHECK.due("distance(0, 0)", net.distance(0, 0), 0);
        CHECK.due("next(0, 0)", net.next(0, 0), -1);
        CHECK.due("distance(0, 4)", net.distance(0, 4), -1);
        CHECK.due("next(0, 4)", net.next(0, 4), -1);
    }

    private static void hopIsTheLeastOfEqualWays() {
        FloodingNet net = Nets.diamond();
        CHECK.due("distance(0, 3)", net.distance(0, 3), 6);
        CHECK.due("next(0, 3)", net.next(0, 3), 1);
        CHECK.due("next(3, 0)", net.next(3, 0), 1);
        CHECK.due("distance(1, 2)", net.distance(1, 2), 3);
        net.fail(0, 1);
        net.tick(5);
        CHECK.due("now over 2", net.next(0, 3), 2);

        // The straight link is as short as the way over 2: 1 is the least as seen from 0, 0 from 1.
        FloodingNet straight = Nets.nodes(3);
        straight.link(0, 1, 5, 1);
        straight.link(0, 2, 2, 1);
        straight.link(2, 1, 3, 1);
        straight.tick(5);
        CHECK.due("straight.next(0, 1)", straight.next(0, 1), 1);
        CHECK.due("straight.next(1, 0)", straight.next(1, 0), 0);
    }

    private static void aStepNeedsBothEnds() {
        FloodingNet net = Nets.nodes(2);
        net.link(0, 1, 3, 4);
        net.tick(3);
        CHECK.due("0 knows its own news alone", net.distance(0, 1), -1);
        net.tick(1);
        CHECK.due("now also that of 1", net.distance(0, 1), 3);

        // 2 knows old news of 0 which tells of 1, but the new news of 1 tells no more of 0.
        FloodingNet row = Nets.row(3);
        row.crash(0);
        row.tick(1);
        CHECK.due("2 still has news of 0 with a cost for 1", row.news(2, 0, 11), 1);
        CHECK.due("2 has news of 1 without 0", row.news(2, 1, 10), 0);
        CHECK.due("so no way", row.distance(2, 0), -1);
        CHECK.due("and no hop", row.next(2, 0), -1);
    }

    private static void waysGoByWhatTheNodeKnows() {
        FloodingNet net = Nets.row(4);
        net.crash(3);
        CHECK.due("2 knows", net.distance(2, 3), -1);
        CHECK.due("1 does not yet", net.distance(1, 3), 2);
        CHECK.due("0 does not yet", net.next(0, 3), 1);
        net.tick(1);
        CHECK.due("1 knows", net.distance(1, 3), -1);
        CHECK.due("0 does not yet", net.distance(0, 3), 3);
        net.tick(1);
        CHECK.due("0 knows", net.distance(0, 3), -1);
    }

    private static void waysOfNothing() {
        FloodingNet net = Nets.row(3);
        for (int no : NO_NODES) {
            CHECK.due("distance(0, " + no + ")", net.distance(0, no), -1);
            CHECK.due("distance(" + no + ", 0)", net.distance(no, 0), -1);
            CHECK.due("distance(" + no + ", same)", net.distance(no, no), -1);
            CHECK.due("next(0, " + no + ")", net.next(0, no), -1);
            CHECK.due("next(" + no + ", 0)", net.next(no, 0), -1);
        }
        CHECK.due("a node that is not there", net.distance(5, 0), -1);
        CHECK.due("to itself", net.distance(5, 5), -1);
        CHECK.due("its next hop", net.next(5, 0), -1);
        CHECK.due("a goal that is not there", net.distance(0, 5), -1);
    }

    private static void longestWay() {
        FloodingNet net = Nets.nodes(8);
        int[] order = {3, 6, 0, 7, 2, 5, 1, 4};
        for (int i = 0; i < 7; i++) {
            net.link(order[i], order[i + 1], 50, 8);
        }
        net.tick(50);
        net.tick(5);
        CHECK.due("the last hop is missing", net.distance(3, 4), -1);
        net.tick(1);
        CHECK.due("distance(3, 4)", net.distance(3, 4), 350);
        CHECK.due("next(3, 4)", net.next(3, 4), 6);
        CHECK.due("distance(4, 3)", net.distance(4, 3), 350);
        net.tick(4);
        CHECK.due("forgotten before the next news can come", net.distance(3, 4), -1);
    }

    private static void settledNeedsNothingInFlight() {
        FloodingNet net = Nets.nodes(2);
        CHECK.due("without links", net.settled(), true);
        net.link(0, 1, 1, 2);
        CHECK.due("while news flies", net.settled(), false);
        net.tick(1);
        CHECK.due("still", net.settled(), false);
        net.tick(1);
        CHECK.due("when it has arrived", net.settled(), true);
        net.send(0, 1, 1);
        CHECK.due("a packet is no news", net.settled(), true);
        // 2 - 3 are apart from 0 - 1, but what flies there counts.
        net.link(2, 3, 1, 1);
        net.start(2);
        net.start(3);
        CHECK.due("news flies elsewhere", net.settled(), false);

        // In a triangle all have heard of all after a tick, while each sends on what it heard.
        FloodingNet triangle = Nets.nodes(3);
        triangle.link(0, 1, 1, 1);
        triangle.link(1, 2, 1, 1);
        triangle.link(0, 2, 1, 1);
        triangle.tick(1);
        for (int node = 0; node < 3; node++) {
            for (int origin = 0; origin < 3; origin++) {
                CHECK.due("all know all", triangle.news(node, origin, 0), 3);
            }
        }
        CHECK.due("six fly", triangle.flying(), 6);
        CHECK.due("so it is not settled", triangle.settled(), false);
        triangle.tick(1);
        CHECK.due("now it is", triangle.settled(), true);
    }

    private static void settledLooksAtJoinedNodesAlone() {
        FloodingNet net = Nets.row(4);
        CHECK.due("a row", net.settled(), true);
        net.fail(1, 2);
        net.tick(5);
        CHECK.due("0 knows older news of 2 than 3 does", net.news(0, 2, 0) < net.news(3, 2, 0), true);
        CHECK.due("but they are not joined", net.settled(), true);
        net.crash(0);
        net.start(0);
        net.tick(5);
        net.crash(3);
        net.tick(5);
        CHECK.due("nodes that are gone do not count", net.settled(), true);
    }

    /**
     * 1 comes and takes the old number 4 of 2, which 0 kept, for newer than 2's new number 2; a tick later
     * the old news is 60 old. So 1 knows none of 2, and nothing is in flight, until 2 tells again.
     */
    private static void settledNeedsTheSameNumbers() {
        FloodingNet net = Nets.nodes(3);
        net.link(0, 1, 1, 8);
        net.link(1, 2, 1, 1);
        net.tick(20);
        net.fail(1, 2);
        net.restore(1, 2);
        net.tick(10);
        CHECK.due("0 knows number 4 of 2", net.news(0, 2, 0), 4);
        net.crash(1);
        net.crash(2);
        net.tick(41);
        CHECK.due("which is 51 old", net.news(0, 2, 1), 51);
        net.start(2);
        net.start(1);
        net.tick(8);
        CHECK.due("1 took it", net.news(1, 2, 0), 4);
        net.tick(9);
        CHECK.due("nothing flies", net.flying(), 0);
        CHECK.due("0 knows number 2 of 2", net.news(0, 2, 0), 2);
        CHECK.due("as 2 does", net.news(2, 2, 0), 2);
        CHECK.due("1 knows none", net.news(1, 2, 0), -1);
        CHECK.due("not settled", net.settled(), false);
        net.tick(42);
        CHECK.due("1 knows number 3", net.news(1, 2, 0), 3);
        CHECK.due("settled", net.settled(), true);
    }
}
