/** The document's 'Terms', but for packets: the sentences that name a boundary, on both sides of it. */
public final class TermsTest {

    private static final Check CHECK = new Check("TermsTest");

    public static void main(String[] args) {
        aLinkCarries();
        numbersBeginWithOne();
        oneOfEachOrigin();
        onePieceInEachDirection();
        theSameNumberInFlight();
        aNewerNumberInFlight();
        anOlderNumberInFlight();
        arrivesByTheDelay();
        newsSixtyOldIsForgotten();
        newsSixtyOldIsNoMoreInFlight();
        newsFortyOldIsToldAnew();
        tellingBeforeFortyPutsItOff();
        stillArrivesWhenItsTurnComes();
        arrivesNoMoreWhenItsTurnComes();
        receivingAGreaterNumberOfItself();
        receivingTheSameNumberOfItself();
        receivingALesserNumberOfItself();
        receivingTheSameNumberOfAnother();
        aComingNodeWithoutNeighbours();
        aComingNodeWithSevenNeighbours();
        CHECK.end();
    }

    private static void aLinkCarries() {
        CHECK.sentence("it CARRIES if it is up and both its nodes are there");
        FloodingNet net = Nets.nodes(1);
        net.link(0, 1, 3, 1);
        CHECK.due("up, 1 is not there", net.news(0, 0, 2), 0);
        net.start(1);
        CHECK.due("up, both are there", net.news(0, 0, 2), 1);
        CHECK.due("as seen from 1", net.news(1, 1, 2), 1);
        net.fail(0, 1);
        CHECK.due("down, both are there", net.news(0, 0, 2), 0);
        CHECK.due("as seen from 1", net.news(1, 1, 2), 0);
        net.crash(1);
        net.restore(0, 1);
        CHECK.due("up, 1 is gone", net.news(0, 0, 2), 0);
        net.crash(0);
        net.start(1);
        CHECK.due("up, 0 is gone", net.news(1, 1, 2), 0);
        net.start(0);
        CHECK.due("up, both are there again", net.news(1, 1, 10), 3);
    }

    private static void numbersBeginWithOne() {
        CHECK.sentence("the number one more than that of the latest news that it made since it came, or 1");
        FloodingNet net = new FloodingNet();
        net.start(0);
        CHECK.due("the first", net.news(0, 0, 0), 1);
        net.tick(40);
        CHECK.due("the second", net.news(0, 0, 0), 2);
        net.tick(40);
        CHECK.due("the third", net.news(0, 0, 0), 3);
        net.crash(0);
        net.start(0);
        CHECK.due("the first since it came again", net.news(0, 0, 0), 1);
        net.tick(39);
        CHECK.due("still the first", net.news(0, 0, 0), 1);
        net.tick(1);
        CHECK.due("the second again", net.news(0, 0, 0), 2);
    }

    private static void oneOfEachOrigin() {
        CHECK.sentence("A node KNOWS at most one piece of news of each origin, also of itself.");
        FloodingNet net = Nets.nodes(2);
        net.link(0, 1, 5, 1);
        net.link(0, 2, 7, 3);
        net.tick(4);
        net.start(2);
        checkPiece(net, 0, 3, 0, 7);
        checkPiece(net, 1, 2, 4, 0);
        net.tick(1);
        checkPiece(net, 0, 3, 1, 7);
        checkPiece(net, 1, 3, 1, 7);
        net.fail(0, 2);
        checkPiece(net, 0, 4, 0, 0);
        checkPiece(net, 1, 3, 1, 7);
        net.tick(1);
        checkPiece(net, 1, 4, 1, 0);
    }

    /** What a node knows of 0, which always tells 5 for 1, and a cost or none (0) for 2. */
    private static void checkPiece(FloodingNet net, int node, int number, int age, int costForTwo) {
        CHECK.due(node + ": the number", net.news(node, 0, 0), number);
        CHECK.due(node + ": the age", net.news(node, 0, 1), age);
        CHECK.due(node + ": how many costs", net.news(node, 0, 2), costForTwo > 0 ? 2 : 1);
        CHECK.due(node + ": the cost for 1", net.news(node, 0, 11), 5);
        CHECK.due(node + ": the cost for 2", net.news(node, 0, 12), costForTwo);
    }

    private static void onePieceInEachDirection() {
        CHECK.sentence("of each origin at most one piece in each direction of each link");
        FloodingNet net = Nets.nodes(3);
        net.link(0, 1, 1, 8);
        net.link(0, 2, 1, 8);
        for (int i = 0; i < 4; i++) {
            CHECK.due("0 to 1, 1 to 0, 0 to 2, 2 to 0", net.flying(), 4);
            net.fail(0, 2);
            CHECK.due("0 to 1, 1 to 0", net.flying(), 2);
            net.restore(2, 0);
        }
        net.tick(8);
        CHECK.due("1 knows the last that 0 made", net.news(1, 0, 0), 11);
        CHECK.due("0 sends 1 what came from 2, and 2 what came from 1", net.flying(), 2);
    }

    /**
     * 2 sends 1 its newer news of 3, as the link comes up, while 1 sends 2 the older. Both arrive in one tick, that
     * from 1 first: 2 would answer it with the newer, but the same number is in flight, and keeps its time.
     */
    private static void theSameNumberInFlight() {
        CHECK.sentence("if some of that origin is in flight there that .. has the same number, nothing");
        FloodingNet net = Nets.nodes(4);
        net.link(1, 2, 1, 4);
        net.link(2, 3, 1, 1);
        net.tick(10);
        net.fail(1, 2);
        net.link(3, 4, 1, 1);
        net.start(4);
        net.tick(5);
        CHECK.due("1 knows older news of 3", net.news(1, 3, 0), 2);
        net.restore(1, 2);
        net.tick(3);
        CHECK.due("still", net.news(1, 3, 0), 2);
        net.tick(1);
        CHECK.due("then the newer", net.news(1, 3, 0), 3);
        CHECK.due("of 3 nothing flies; that of 1 goes to 3, that of 3's link to 4 is known", net.flying(), 1);
    }

    /**
     * 1 sends 0 the number 2 of 2, which came a second time. Then the number 4 of 2's first time, which 0 had kept,
     * reaches 1 and is forgotten a tick later: so 1 takes the number 1 of 2's third time, while number 2 still flies.
     */
    private static void aNewerNumberInFlight() {
        CHECK.sentence("if some of that origin is in flight there that is newer .. nothing");
        FloodingNet net = Nets.nodes(3);
        net.link(0, 1, 1, 8);
        net.link(1, 2, 1, 4);
        net.tick(20);
        net.fail(1, 2);
        net.restore(1, 2);
        net.tick(12);
        CHECK.due("0 knows number 4", net.news(0, 2, 0), 4);
        net.crash(1);
        net.crash(2);
        net.tick(39);
        net.start(2);
        net.start(1);
        net.tick(7);
        CHECK.due("1 knows number 2", net.news(1, 2, 0), 2);
        net.crash(2);
        net.start(2);
        net.tick(1);
        CHECK.due("1 knows number 4, 59 old", net.news(1, 2, 1), 59);
        net.tick(1);
        CHECK.due("1 knows none", net.news(1, 2, 0), -1);
        CHECK.due("0 knows none", net.news(0, 2, 0), -1);
        net.tick(2);
        CHECK.due("1 knows number 1", net.news(1, 2, 0), 1);
        CHECK.due("0 still knows none", net.news(0, 2, 0), -1);
        net.tick(1);
        CHECK.due("0 knows number 2, as it flew on", net.news(0, 2, 0), 2);
        net.tick(8);
        CHECK.due("and number 1 never came", net.news(0, 2, 1), 20);
    }

    private static void anOlderNumberInFlight() {
        CHECK.sentence("otherwise it is in flight (in place of what was there), and arrives DELAY ticks from now");
        FloodingNet net = Nets.nodes(2);
        net.link(0, 1, 1, 8);
        net.link(0, 2, 1, 1);
        net.tick(7);
        CHECK.due("0's number 2 and 1's fly", net.flying(), 2);
        net.start(2);
        CHECK.due("0's number 3 in place of 2, and to and from 2", net.flying(), 4);
        net.tick(1);
        CHECK.due("number 2 does not arrive at 8", net.news(1, 0, 0), -1);
        net.tick(6);
        CHECK.due("nor number 3 before 15", net.news(1, 0, 0), -1);
        net.tick(1);
        CHECK.due("number 3 arrives at 15", net.news(1, 0, 0), 3);
    }

    private static void arrivesByTheDelay() {
        CHECK.sentence("and arrives DELAY ticks from now");
        for (int delay = 1; delay <= 8; delay++) {
            FloodingNet net = Nets.nodes(2);
            net.link(1, 0, 1, delay);
            if (delay > 1) {
                net.tick(delay - 1);
            }
            CHECK.due("a tick before", net.news(1, 0, 0), -1);
            CHECK.due("a tick before", net.news(0, 1, 0), -1);
            net.tick(1);
            CHECK.due("in time", net.news(1, 0, 1), delay);
            CHECK.due("in time", net.news(0, 1, 1), delay);
            CHECK.due("no more in flight", net.flying(), 0);
        }
    }

    /** 1 makes its number 1 as it comes, and 0 its number 2. */
    private static void newsSixtyOldIsForgotten() {
        CHECK.sentence("News that is 60 old is forgotten");
        FloodingNet net = Nets.nodes(1);
        net.link(0, 1, 1, 1);
        net.start(1);
        net.tick(1);
        net.fail(0, 1);
        net.tick(50);
        net.tick(8);
        CHECK.due("1's is 59 old at 0", net.news(0, 1, 1), 59);
        CHECK.due("and of the number", net.news(0, 1, 0), 1);
        CHECK.due("0's is 59 old at 1", net.news(1, 0, 1), 59);
        CHECK.due("and tells a cost", net.news(1, 0, 11), 1);
        net.tick(1);
        for (int what : new int[] {0, 1, 2, 11}) {
            CHECK.due("0 forgot 1's", net.news(0, 1, what), -1);
            CHECK.due("1 forgot 0's", net.news(1, 0, what), -1);
        }
        CHECK.due("its own it has told anew at 41", net.news(0, 0, 1), 19);
    }

    /** 0 knows news of the gone node 2 that is 55 old, and sends it to 1 over a new link. */
    private static FloodingNet oldNewsInFlight(int delay) {
        FloodingNet net = Nets.nodes(3);
        net.link(0, 2, 1, 1);
        net.tick(1);
        net.crash(2);
        net.tick(50);
        net.tick(4);
        net.link(0, 1, 1, delay);
        return net;
    }

    private static void newsSixtyOldIsNoMoreInFlight() {
        CHECK.sentence("News that is 60 old is .. no more in flight");
        FloodingNet net = oldNewsInFlight(8);
        net.tick(4);
        CHECK.due("59 old it flies", net.flying(), 3);
        net.tick(1);
        CHECK.due("60 old it does not", net.flying(), 2);
        net.tick(3);
        CHECK.due("1 never heard of 2", net.news(1, 2, 0), -1);

        FloodingNet inTime = oldNewsInFlight(4);
        inTime.tick(4);
        CHECK.due("59 old it is received", inTime.news(1, 2, 1), 59);
        FloodingNet late = oldNewsInFlight(5);
        late.tick(5);
        CHECK.due("60 old it is not", late.news(1, 2, 0), -1);
    }

    private static void newsFortyOldIsToldAnew() {
        CHECK.sentence("each node, from 0 on, whose news of itself is 40 old tells");
        FloodingNet net = Nets.nodes(7);
        net.link(0, 1, 1, 2);
        net.tick(39);
        for (int node = 0; node < 7; node++) {
            CHECK.due("39 old", net.news(node, node, 1), 39);
            CHECK.due("the number", net.news(node, node, 0), node < 2 ? 2 : 1);
        }
        CHECK.due("nothing flies", net.flying(), 0);
        net.tick(1);
        for (int node = 0; node < 7; node++) {
            CHECK.due("told anew", net.news(node, node, 1), 0);
            CHECK.due("the number", net.news(node, node, 0), node < 2 ? 3 : 2);
        }
        CHECK.due("0's and 1's fly", net.flying(), 2);
        CHECK.due("what 1 knows of 0 is 40 old and not told", net.news(1, 0, 1), 40);
        CHECK.due("7 is not there", net.news(7, 7, 0), -1);
        net.tick(1);
        CHECK.due("41 after: told once", net.news(0, 0, 0), 3);
    }

    private static void tellingBeforeFortyPutsItOff() {
        CHECK.sentence("whose news of itself is 40 old");
        FloodingNet net = Nets.nodes(2);
        net.tick(39);
        net.link(0, 1, 1, 1);
        CHECK.due("0 told", net.news(0, 0, 0), 2);
        net.tick(39);
        CHECK.due("not at 78", net.news(0, 0, 0), 2);
        net.tick(1);
        CHECK.due("but at 79", net.news(0, 0, 0), 3);
    }

    /** 0's numbers 4 and 5 go to middle and on to far; number 4 is to arrive at far when 5 reaches middle. */
    private static FloodingNet twoNumbersOnTheirWay(int origin, int middle, int far) {
        FloodingNet net = Nets.nodes(4);
        net.link(origin, middle, 1, 1);
        net.link(middle, far, 1, 2);
        net.link(origin, 3, 1, 8);
        net.tick(20);
        CHECK.due("far knows number 3", net.news(far, origin, 0), 3);
        net.fail(origin, 3);
        net.tick(2);
        CHECK.due("middle knows number 4", net.news(middle, origin, 0), 4);
        net.restore(origin, 3);
        net.tick(1);
        CHECK.due("middle knows number 5", net.news(middle, origin, 0), 5);
        return net;
    }

    private static void stillArrivesWhenItsTurnComes() {
        CHECK.sentence("each piece of news in flight that arrives now (and still does, when its turn comes)");
        FloodingNet net = twoNumbersOnTheirWay(2, 1, 0);
        CHECK.due("from 1 comes before from 2: number 4 is received", net.news(0, 2, 0), 4);
        net.tick(1);
        CHECK.due("number 5 is on its way", net.news(0, 2, 0), 4);
        net.tick(1);
        CHECK.due("and received", net.news(0, 2, 0), 5);
    }

    private static void arrivesNoMoreWhenItsTurnComes() {
        CHECK.sentence("each piece of news in flight that arrives now (and still does, when its turn comes)");
        FloodingNet net = twoNumbersOnTheirWay(0, 1, 2);
        CHECK.due("from 0 comes before from 1: number 5 took the place of 4", net.news(2, 0, 0), 3);
        net.tick(1);
        CHECK.due("number 5 is on its way", net.news(2, 0, 0), 3);
        net.tick(1);
        CHECK.due("and received", net.news(2, 0, 0), 5);
    }

    /**
     * 1 knows number 4 of 0 from before 0 came again. Since then 0 has told so many times (2 and more), the last
     * time as the link to 1 came up: over that 1 sends it the number 4. 0 tells more as 2 comes and goes.
     */
    private static FloodingNet itsOwnNumberFourComes(int told) {
        FloodingNet net = Nets.nodes(2);
        net.link(0, 1, 1, 1);
        net.fail(0, 1);
        net.restore(0, 1);
        net.tick(1);
        CHECK.due("1 knows number 4 of 0", net.news(1, 0, 0), 4);
        net.fail(0, 1);
        net.crash(0);
        net.start(0);
        net.link(0, 2, 1, 8);
        for (int i = 2; i < told; i++) {
            if (i % 2 == 0) {
                net.start(2);
            } else {
                net.crash(2);
            }
        }
        net.restore(0, 1);
        CHECK.due("0 is at", net.news(0, 0, 0), told);
        net.tick(1);
        return net;
    }

    private static void receivingAGreaterNumberOfItself() {
        CHECK.sentence("if its number is greater than that of the news that v made latest, v takes .. and tells");
        for (int told = 2; told <= 3; told++) {
            FloodingNet net = itsOwnNumberFourComes(told);
            CHECK.due("0 took 4 and told", net.news(0, 0, 0), 5);
            CHECK.due("just now", net.news(0, 0, 1), 0);
            CHECK.due("1 knows the old number 4", net.news(1, 0, 1), 2);
            net.tick(1);
            CHECK.due("1 knows the new one", net.news(1, 0, 0), 5);
            CHECK.due("which tells of the link", net.news(1, 0, 11), 1);
        }
    }

    private static void receivingTheSameNumberOfItself() {
        CHECK.sentence("if it is not, nothing is done");
        FloodingNet net = itsOwnNumberFourComes(4);
        CHECK.due("0 stays at 4", net.news(0, 0, 0), 4);
        CHECK.due("which it told as the link came up", net.news(0, 0, 1), 1);
        CHECK.due("1 keeps the old number 4", net.news(1, 0, 1), 2);
        CHECK.due("nothing flies", net.flying(), 0);
    }

    private static void receivingALesserNumberOfItself() {
        CHECK.sentence("if it is not, nothing is done");
        FloodingNet net = itsOwnNumberFourComes(5);
        CHECK.due("0 stays at 5", net.news(0, 0, 0), 5);
        CHECK.due("which it told as the link came up", net.news(0, 0, 1), 1);
        CHECK.due("1 knows it", net.news(1, 0, 1), 1);
        // Between 0 and 2: each one's own, and that of 1.
        CHECK.due("0 does not answer", net.flying(), 3);
    }

    /** All three know the same of 0; 1 and 2 send it to each other once more as their link comes up again. */
    private static void receivingTheSameNumberOfAnother() {
        CHECK.sentence("if v knows none of that origin or older news .. Otherwise, if what v knows is newer");
        FloodingNet net = Nets.row(3);
        net.fail(1, 2);
        net.tick(3);
        net.restore(1, 2);
        CHECK.due("1 to 2 and 2 to 1 three each, 1 to 0 one", net.flying(), 7);
        int ageBefore = net.news(2, 0, 1);
        net.tick(1);
        CHECK.due("2's news alone goes on, to 0", net.flying(), 1);
        CHECK.due("2 knows of 0 what it knew", net.news(2, 0, 1), ageBefore + 1);
        net.tick(1);
        CHECK.due("nothing flies", net.flying(), 0);
    }

    private static void aComingNodeWithoutNeighbours() {
        CHECK.sentence("for each of its links that carries then, by the other node: that one tells; then the node tells");
        FloodingNet net = Nets.nodes(2);
        net.link(0, 7, 1, 1);
        net.link(7, 5, 1, 1);
        net.fail(0, 7);
        net.start(7);
        CHECK.due("7 tells", net.news(7, 7, 0), 1);
        CHECK.due("of no link", net.news(7, 7, 2), 0);
        CHECK.due("0, whose link is down, does not", net.news(0, 0, 0), 1);
        CHECK.due("1, who has none, does not", net.news(1, 1, 0), 1);
        CHECK.due("nothing flies", net.flying(), 0);
    }

    private static void aComingNodeWithSevenNeighbours() {
        CHECK.sentence("for each of its links that carries then, by the other node: that one tells; then the node tells");
        FloodingNet net = Nets.nodes(7);
        for (int other = 0; other < 7; other++) {
            net.link(other, 7, 1 + other, 8);
        }
        net.start(7);
        CHECK.due("7 tells once", net.news(7, 7, 0), 1);
        CHECK.due("of seven links", net.news(7, 7, 2), 7);
        for (int other = 0; other < 7; other++) {
            CHECK.due(other + " told", net.news(other, other, 0), 2);
            CHECK.due(other + " tells the cost", net.news(other, other, 17), 1 + other);
            CHECK.due("7 tells the cost", net.news(7, 7, 10 + other), 1 + other);
        }
        CHECK.due("seven to 7 and seven from it", net.flying(), 14);
        net.crash(7);
        CHECK.due("all is gone", net.flying(), 0);
        CHECK.due("each told", net.news(6, 6, 0), 3);
        CHECK.due("each told", net.news(0, 0, 2), 0);
    }
}
