/** Promises 8 to 11 and 14: news, flying, distance, next, settled. */
public final class AnswersTest {

    private static final Check CHECK = new Check("AnswersTest");

    public static void main(String[] args) {
        newsTellsAll();
        flyingCounts();
        distancesAndHops();
        hopIsTheLeastOfEqualWays();
        aStepNeedsBothEnds();
        waysGoByWhatTheNodeKnows();
        longestWay();
        settledNeedsNothingInFlight();
        CHECK.end();
    }

    private static void newsTellsAll() {
        FloodingNet net = Nets.nodes(8);
        for (int other = 0; other < 7; other++) {
            net.link(7, other, 44 + other, 1);
        }
        net.tick(2);
        CHECK.due("number", net.news(0, 7, 0), 8);
        CHECK.due("age", net.news(0, 7, 1), 2);
        CHECK.due("how many costs", net.news(0, 7, 2), 7);
        for (int other = 0; other < 7; other++) {
            CHECK.due("cost for " + other, net.news(3, 7, 10 + other), 44 + other);
            CHECK.due("cost for 7", net.news(7, other, 17), 44 + other);
        }
        CHECK.due("no cost for itself", net.news(0, 7, 17), 0);
        CHECK.due("no cost for 2", net.news(0, 1, 12), 0);
    }

    private static void flyingCounts() {
        FloodingNet net = Nets.nodes(3);
        CHECK.due("without links", net.flying(), 0);
        net.link(0, 1, 1, 2);
        CHECK.due("one each way", net.flying(), 2);
        net.link(1, 2, 1, 3);
        CHECK.due("1 tells 0 anew and 2, 2 tells 1", net.flying(), 4);
        net.tick(2);
        CHECK.due("0 and 1 heard; 1 sends 0's news on", net.flying(), 3);
        net.tick(1);
        CHECK.due("2's news goes on to 0", net.flying(), 2);
        net.tick(2);
        CHECK.due("nothing", net.flying(), 0);
    }

    private static void distancesAndHops() {
        FloodingNet net = Nets.nodes(5);
        net.link(0, 1, 10, 1);
        net.link(0, 2, 3, 1);
        net.link(2, 1, 4, 1);
        net.link(1, 3, 2, 1);
        net.tick(10);
        CHECK.due("distance(0, 1)", net.distance(0, 1), 7);
        CHECK.due("next(0, 1)", net.next(0, 1), 2);
        CHECK.due("distance(0, 3)", net.distance(0, 3), 9);
        CHECK.due("next(0, 3)", net.next(0, 3), 2);
        CHECK.due("distance(3, 0)", net.distance(3, 0), 9);
        CHECK.due("next(3, 0)", net.next(3, 0), 1);
        CHECK.due("next(2, 3)", net.next(2, 3), 1);
        CHECK.due("distance(0, 0)", net.distance(0, 0), 0);
        CHECK.due("next(0, 0)", net.next(0, 0), -1);
        CHECK.due("distance(0, 4)", net.distance(0, 4), -1);
        CHECK.due("next(0, 4)", net.next(0, 4), -1);
    }

    private static void hopIsTheLeastOfEqualWays() {
        FloodingNet net = Nets.diamond();
        CHECK.due("distance(0, 3)", net.distance(0, 3), 6);
        CHECK.due("next(0, 3)", net.next(0, 3), 1);
        CHECK.due("next(3, 0)", net.next(3, 0), 1);
        CHECK.due("distance(1, 2)", net.distance(1, 2), 3);
        net.fail(0, 1);
        net.tick(5);
        CHECK.due("now over 2", net.next(0, 3), 2);

        // The straight link is as short as the way over 2: 1 is the least as seen from 0, 0 from 1.
        FloodingNet straight = Nets.nodes(3);
        straight.link(0, 1, 5, 1);
        straight.link(0, 2, 2, 1);
        straight.link(2, 1, 3, 1);
        straight.tick(5);
        CHECK.due("straight.next(0, 1)", straight.next(0, 1), 1);
        CHECK.due("straight.next(1, 0)", straight.next(1, 0), 0);
    }

    private static void aStepNeedsBothEnds() {
        FloodingNet net = Nets.nodes(2);
        net.link(0, 1, 3, 4);
        net.tick(3);
        CHECK.due("0 knows its own news alone", net.distance(0, 1), -1);
        net.tick(1);
        CHECK.due("now also that of 1", net.distance(0, 1), 3);

        // 2 knows old news of 0 which tells of 1, but the new news of 1 tells no more of 0.
        FloodingNet row = Nets.row(3);
        row.crash(0);
        row.tick(1);
        CHECK.due("2 still has news of 0 with a cost for 1", row.news(2, 0, 11), 1);
        CHECK.due("2 has news of 1 without 0", row.news(2, 1, 10), 0);
        CHECK.due("so no way", row.distance(2, 0), -1);
        CHECK.due("and no hop", row.next(2, 0), -1);

        // 0 comes again: its own news tells of 1, but that of 1 is forgotten.
        FloodingNet anew = Nets.row(2);
        anew.crash(0);
        anew.start(0);
        CHECK.due("0 tells of 1", anew.news(0, 0, 11), 1);
        CHECK.due("but knows no way", anew.distance(0, 1), -1);
        CHECK.due("and no hop", anew.next(0, 1), -1);
        anew.tick(1);
        CHECK.due("until it hears of 1", anew.next(0, 1), 1);
    }

    private static void waysGoByWhatTheNodeKnows() {
        FloodingNet net = Nets.row(4);
        net.crash(3);
        CHECK.due("2 knows", net.distance(2, 3), -1);
        CHECK.due("1 does not yet", net.distance(1, 3), 2);
        CHECK.due("0 does not yet", net.next(0, 3), 1);
        net.tick(1);
        CHECK.due("1 knows", net.distance(1, 3), -1);
        CHECK.due("0 does not yet", net.distance(0, 3), 3);
        net.tick(1);
        CHECK.due("0 knows", net.distance(0, 3), -1);
    }

    private static void longestWay() {
        FloodingNet net = Nets.nodes(8);
        int[] order = {3, 6, 0, 7, 2, 5, 1, 4};
        for (int i = 0; i < 7; i++) {
            net.link(order[i], order[i + 1], 50, 8);
        }
        net.tick(50);
        net.tick(5);
        CHECK.due("the last hop is missing", net.distance(3, 4), -1);
        net.tick(1);
        CHECK.due("distance(3, 4)", net.distance(3, 4), 350);
        CHECK.due("next(3, 4)", net.next(3, 4), 6);
        CHECK.due("distance(4, 3)", net.distance(4, 3), 350);
        net.tick(4);
        CHECK.due("forgotten before the next news can come", net.distance(3, 4), -1);
    }

    private static void settledNeedsNothingInFlight() {
        FloodingNet net = Nets.nodes(2);
        CHECK.due("without links", net.settled(), true);
        net.link(0, 1, 1, 2);
        CHECK.due("while news flies", net.settled(), false);
        net.tick(1);
        CHECK.due("still", net.settled(), false);
        net.tick(1);
        CHECK.due("when it has arrived", net.settled(), true);
        net.send(0, 1, 1);
        CHECK.due("a packet is no news", net.settled(), true);
        // 2 - 3 are apart from 0 - 1, but what flies there counts.
        net.link(2, 3, 1, 1);
        net.start(2);
        net.start(3);
        CHECK.due("news flies elsewhere", net.settled(), false);

        // In a triangle all have heard of all after a tick, while each sends on what it heard.
        FloodingNet triangle = Nets.nodes(3);
        triangle.link(0, 1, 1, 1);
        triangle.link(1, 2, 1, 1);
        triangle.link(0, 2, 1, 1);
        triangle.tick(1);
        for (int node = 0; node < 3; node++) {
            for (int origin = 0; origin < 3; origin++) {
                CHECK.due("all know all", triangle.news(node, origin, 0), 3);
            }
        }
        CHECK.due("six fly", triangle.flying(), 6);
        CHECK.due("so it is not settled", triangle.settled(), false);
        triangle.tick(1);
        CHECK.due("now it is", triangle.settled(), true);
    }
}
