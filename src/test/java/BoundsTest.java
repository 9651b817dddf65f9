/** The bounds that promises 1 to 14 name, each on both sides: one method for each sentence. */
public final class BoundsTest {

    private static final Check CHECK = new Check("BoundsTest");

    private static final int[] NO_NODES = Check.outside(0, 7);

    public static void main(String[] args) {
        newObject();
        linkNodes();
        linkOfANodeToItself();
        linkCost();
        linkDelay();
        linkOfTwoThatHaveOne();
        linkNumberTwelve();
        linkIsUp();
        failAndRestoreAnswer();
        failAndRestoreNeedALink();
        startAndCrashAnswer();
        startAndCrashNeedANode();
        tickBounds();
        tickIsSoManyTicks();
        newsWhat();
        newsNodes();
        newsOfAnOriginThatIsNotKnown();
        flyingFromNoneOn();
        waysNodes();
        waysToItself();
        waysOfANodeThatIsNotThere();
        waysThatAreNotKnown();
        sendNodes();
        sendLife();
        sendFromANodeThatIsNotThere();
        sendNumberTwenty();
        packetNumbers();
        packetWhat();
        packetStates();
        settledNeedsNothingInFlight();
        settledDirectly();
        settledOverOthers();
        settledApart();
        settledOfNodesOutside();
        CHECK.end();
    }

    private static void newObject() {
        CHECK.sentence("1: No nodes, no links, time 0.");
        FloodingNet net = new FloodingNet();
        CHECK.due("flying()", net.flying(), 0);
        CHECK.due("settled()", net.settled(), true);
        for (int u = 0; u < 8; u++) {
            int node = u;
            for (int v = 0; v < 8; v++) {
                int other = v;
                CHECK.due("news(" + u + ", " + v + ", 0)", net.news(u, v, 0), -1);
                CHECK.due("distance(" + u + ", " + v + ")", net.distance(u, v), -1);
                CHECK.due("next(" + u + ", " + v + ")", net.next(u, v), -1);
                CHECK.wrongArgument("fail(" + u + ", " + v + ")", () -> net.fail(node, other));
                CHECK.wrongArgument("restore(" + u + ", " + v + ")", () -> net.restore(node, other));
            }
            CHECK.wrongState("send(" + u + ", 0, 1)", () -> net.send(node, 0, 1));
            CHECK.due("crash(" + u + ")", net.crash(u), false);
        }
        CHECK.due("packet(0, 0)", net.packet(0, 0), -1);
        CHECK.due("tick(1)", net.tick(1), 1);
        CHECK.due("link(6, 7, 1, 1)", net.link(6, 7, 1, 1), 1);
        CHECK.due("start(7)", net.start(7), true);
        CHECK.due("send(7, 7, 0)", net.send(7, 7, 0), 0);
        CHECK.due("another object has a time of its own", new FloodingNet().tick(2), 2);
    }

    private static void linkNodes() {
        CHECK.sentence("2: IllegalArgumentException when u or v is no node 0 .. 7");
        FloodingNet net = new FloodingNet();
        for (int no : NO_NODES) {
            CHECK.wrongArgument("link(" + no + ", 3, 1, 1)", () -> net.link(no, 3, 1, 1));
            CHECK.wrongArgument("link(3, " + no + ", 1, 1)", () -> net.link(3, no, 1, 1));
            CHECK.wrongArgument("link(" + no + ", " + (no ^ 1) + ", 1, 1)", () -> net.link(no, no ^ 1, 1, 1));
        }
        CHECK.due("link(0, 7, 1, 1)", net.link(0, 7, 1, 1), 1);
        CHECK.due("link(7, 1, 1, 1)", net.link(7, 1, 1, 1), 2);
        CHECK.due("link(6, 0, 1, 1)", net.link(6, 0, 1, 1), 3);
    }

    private static void linkOfANodeToItself() {
        CHECK.sentence("2: .. they are the same");
        FloodingNet net = Nets.nodes(8);
        for (int u = 0; u < 8; u++) {
            int node = u;
            CHECK.wrongArgument("link(" + u + ", " + u + ", 1, 1)", () -> net.link(node, node, 1, 1));
        }
        for (int u = 0; u < 7; u++) {
            CHECK.due("link(" + u + ", " + (u + 1) + ", 1, 1)", net.link(u, u + 1, 1, 1), u + 1);
        }
    }

    private static void linkCost() {
        CHECK.sentence("2: .. or cost .. is out of its bounds; a COST 1 .. 50 (both ways)");
        FloodingNet net = Nets.nodes(3);
        for (int cost : Check.outside(1, 50)) {
            CHECK.wrongArgument("link(0, 1, " + cost + ", 1)", () -> net.link(0, 1, cost, 1));
        }
        CHECK.due("link(0, 1, 1, 1)", net.link(0, 1, 1, 1), 1);
        CHECK.due("link(2, 1, 50, 1)", net.link(2, 1, 50, 1), 2);
        CHECK.due("0 tells 1 for 1", net.news(0, 0, 11), 1);
        CHECK.due("1 tells 1 for 0", net.news(1, 1, 10), 1);
        CHECK.due("1 tells 50 for 2", net.news(1, 1, 12), 50);
        CHECK.due("2 tells 50 for 1", net.news(2, 2, 11), 50);
        net.tick(2);
        CHECK.due("distance(0, 2)", net.distance(0, 2), 51);
        CHECK.due("distance(2, 0)", net.distance(2, 0), 51);
    }

    private static void linkDelay() {
        CHECK.sentence("2: .. or delay is out of its bounds; a DELAY 1 .. 8 in TICKS");
        FloodingNet net = Nets.nodes(3);
        for (int delay : Check.outside(1, 8)) {
            CHECK.wrongArgument("link(0, 1, 1, " + delay + ")", () -> net.link(0, 1, 1, delay));
        }
        CHECK.due("link(0, 1, 1, 1)", net.link(0, 1, 1, 1), 1);
        CHECK.due("link(2, 1, 1, 8)", net.link(2, 1, 1, 8), 2);
        CHECK.due("0 knows nothing of 1", net.news(0, 1, 0), -1);
        net.tick(1);
        CHECK.due("a tick later 0 knows of 1", net.news(0, 1, 0), 3);
        CHECK.due("and 1 of 0", net.news(1, 0, 0), 2);
        net.tick(6);
        CHECK.due("after seven 2 knows nothing of 1", net.news(2, 1, 0), -1);
        CHECK.due("nor 1 of 2", net.news(1, 2, 0), -1);
        net.tick(1);
        CHECK.due("after eight 2 knows of 1", net.news(2, 1, 0), 3);
        CHECK.due("and 1 of 2", net.news(1, 2, 0), 2);
    }

    private static void linkOfTwoThatHaveOne() {
        CHECK.sentence("2: IllegalStateException when these two have one");
        FloodingNet net = new FloodingNet();
        net.link(0, 1, 1, 1);
        CHECK.wrongState("link(0, 1, 2, 2)", () -> net.link(0, 1, 2, 2));
        CHECK.wrongState("link(1, 0, 1, 1)", () -> net.link(1, 0, 1, 1));
        net.fail(0, 1);
        CHECK.wrongState("when it is down", () -> net.link(0, 1, 1, 1));
        net.start(0);
        net.start(1);
        CHECK.wrongState("when both are there", () -> net.link(1, 0, 1, 1));
        CHECK.due("link(0, 2, 1, 1), of another two", net.link(0, 2, 1, 1), 2);
        CHECK.due("link(2, 1, 1, 1), of another two", net.link(2, 1, 1, 1), 3);
    }

    private static void linkNumberTwelve() {
        CHECK.sentence("2: IllegalStateException when .. there are 12; There are at most 12 links.");
        FloodingNet net = new FloodingNet();
        int[][] pairs = {{0, 1}, {2, 0}, {0, 3}, {4, 0}, {0, 5}, {6, 0}, {0, 7}, {1, 2}, {3, 1}, {1, 4}, {5, 1}, {1, 6}};
        for (int i = 0; i < 12; i++) {
            CHECK.due("link number " + (i + 1), net.link(pairs[i][0], pairs[i][1], 1, 1), i + 1);
        }
        CHECK.wrongState("a 13th", () -> net.link(2, 3, 1, 1));
        CHECK.wrongState("one of the twelve", () -> net.link(0, 1, 1, 1));
        net.fail(0, 7);
        CHECK.wrongState("a 13th when one is down", () -> net.link(6, 7, 50, 8));
        CHECK.wrongState("the one that is down", () -> net.link(0, 7, 1, 1));
        CHECK.due("the twelve are there: fail(1, 6)", net.fail(1, 6), true);
    }

    private static void linkIsUp() {
        CHECK.sentence("2: A new link, which is up: how many there are.");
        FloodingNet net = new FloodingNet();
        CHECK.due("link(3, 4, 5, 6)", net.link(3, 4, 5, 6), 1);
        CHECK.due("it is up: restore(3, 4)", net.restore(3, 4), false);
        net.fail(3, 4);
        CHECK.due("one that is down counts: link(4, 5, 6, 7)", net.link(4, 5, 6, 7), 2);
        CHECK.due("the old one is still down: fail(3, 4)", net.fail(3, 4), false);
        CHECK.due("the new one is up: fail(4, 5)", net.fail(4, 5), true);
    }

    /** Whether none, one or both of the nodes are there makes no difference to the answers. */
    private static void failAndRestoreAnswer() {
        CHECK.sentence("3 and 4: true; false when it is down; false when it is up");
        for (int there = 0; there <= 2; there++) {
            FloodingNet net = Nets.nodes(there);
            net.link(0, 1, 1, 1);
            CHECK.due(there + " there: restore(0, 1) of a new link", net.restore(0, 1), false);
            CHECK.due(there + " there: fail(0, 1)", net.fail(0, 1), true);
            CHECK.due(there + " there: fail(0, 1) again", net.fail(0, 1), false);
            CHECK.due(there + " there: fail(1, 0)", net.fail(1, 0), false);
            CHECK.due(there + " there: restore(1, 0)", net.restore(1, 0), true);
            CHECK.due(there + " there: restore(1, 0) again", net.restore(1, 0), false);
            CHECK.due(there + " there: restore(0, 1)", net.restore(0, 1), false);
            CHECK.due(there + " there: fail(1, 0)", net.fail(1, 0), true);
        }
        FloodingNet net = Nets.row(2);
        net.crash(1);
        CHECK.due("a link stays up when a node goes: restore(0, 1)", net.restore(0, 1), false);
        net.fail(0, 1);
        net.start(1);
        CHECK.due("and down when one comes: fail(0, 1)", net.fail(0, 1), false);
    }

    private static void failAndRestoreNeedALink() {
        CHECK.sentence("3 and 4: IllegalArgumentException when these two have no link");
        FloodingNet net = Nets.row(2);
        for (int u = -2; u <= 9; u++) {
            for (int v = -9; v <= 16; v += u == 0 || u == 1 ? 1 : 5) {
                if (u + v != 1 || u * v != 0) {
                    needsALink(net, u, v);
                }
            }
        }
        for (int no : NO_NODES) {
            needsALink(net, no, 0);
            needsALink(net, 1, no);
        }
        CHECK.due("fail(0, 1)", net.fail(0, 1), true);
        CHECK.due("restore(1, 0)", net.restore(1, 0), true);
    }

    private static void needsALink(FloodingNet net, int u, int v) {
        CHECK.wrongArgument("fail(" + u + ", " + v + ")", () -> net.fail(u, v));
        CHECK.wrongArgument("restore(" + u + ", " + v + ")", () -> net.restore(u, v));
    }

    private static void startAndCrashAnswer() {
        CHECK.sentence("5 and 6: true; false when it is there; false when it is not there");
        FloodingNet net = new FloodingNet();
        for (int node = 0; node < 8; node++) {
            CHECK.due("crash(" + node + "), which never came", net.crash(node), false);
            CHECK.due("start(" + node + ")", net.start(node), true);
            CHECK.due("start(" + node + ") again", net.start(node), false);
        }
        for (int node = 0; node < 8; node++) {
            CHECK.due("crash(" + node + ")", net.crash(node), true);
            CHECK.due("crash(" + node + ") again", net.crash(node), false);
            CHECK.due("start(" + node + ") once more", net.start(node), true);
        }
    }

    private static void startAndCrashNeedANode() {
        CHECK.sentence("5 and 6: IllegalArgumentException when u is not 0 .. 7");
        FloodingNet net = Nets.nodes(8);
        for (int no : NO_NODES) {
            CHECK.wrongArgument("start(" + no + ")", () -> net.start(no));
            CHECK.wrongArgument("crash(" + no + ")", () -> net.crash(no));
        }
        for (int node : new int[] {0, 7}) {
            CHECK.due("crash(" + node + ")", net.crash(node), true);
            CHECK.due("start(" + node + ")", net.start(node), true);
        }
    }

    private static void tickBounds() {
        CHECK.sentence("7: IllegalArgumentException when n is not 1 .. 50.");
        FloodingNet net = Nets.nodes(1);
        for (int n : Check.outside(1, 50)) {
            CHECK.wrongArgument("tick(" + n + ")", () -> net.tick(n));
        }
        CHECK.due("no time went by", net.news(0, 0, 1), 0);
        CHECK.due("tick(1)", net.tick(1), 1);
        CHECK.due("tick(50)", net.tick(50), 51);
        for (int n : Check.outside(1, 50)) {
            CHECK.wrongArgument("tick(" + n + ")", () -> net.tick(n));
        }
        CHECK.due("tick(49)", net.tick(49), 100);
    }

    private static void tickIsSoManyTicks() {
        CHECK.sentence("7: So many ticks: the time.");
        FloodingNet atOnce = Nets.diamond();
        FloodingNet oneByOne = Nets.diamond();
        atOnce.crash(3);
        oneByOne.crash(3);
        atOnce.send(0, 3, 30);
        oneByOne.send(0, 3, 30);
        atOnce.tick(50);
        for (int i = 0; i < 50; i++) {
            oneByOne.tick(1);
        }
        for (int part = 0; part < 2; part++) {
            CHECK.due("after 50 ticks", View.ask(atOnce, part), View.ask(oneByOne, part));
        }
        CHECK.due("the time", atOnce.tick(1), 61);
        CHECK.due("the time one by one", oneByOne.tick(1), 61);
    }

    private static void newsWhat() {
        CHECK.sentence("8: what = 0 its number, 1 its age, 2 how many costs it tells, 10 + w the cost for node w");
        FloodingNet net = Nets.nodes(8);
        net.link(3, 0, 9, 1);
        net.link(3, 7, 50, 1);
        net.tick(1);
        CHECK.due("news(7, 3, 0)", net.news(7, 3, 0), 3);
        CHECK.due("news(7, 3, 1)", net.news(7, 3, 1), 1);
        CHECK.due("news(7, 3, 2)", net.news(7, 3, 2), 2);
        for (int what : new int[] {-1, 3, 4, 9, 18, 19, Integer.MIN_VALUE, Integer.MAX_VALUE}) {
            CHECK.due("news(7, 3, " + what + ")", net.news(7, 3, what), -1);
        }
        for (int w = 0; w < 8; w++) {
            int cost = w == 0 ? 9 : w == 7 ? 50 : 0;
            CHECK.due("news(7, 3, " + (10 + w) + ")", net.news(7, 3, 10 + w), cost);
        }
        CHECK.due("news(5, 5, 2) of a node alone", net.news(5, 5, 2), 0);
    }

    /** All nodes know of all, so that an index that is not looked at would find news. */
    private static void newsNodes() {
        CHECK.sentence("8: NONE when .. there is no such node or origin");
        FloodingNet net = Nets.row(8);
        CHECK.due("news(0, 7, 0)", net.news(0, 7, 0), 2);
        CHECK.due("news(7, 0, 0)", net.news(7, 0, 0), 2);
        for (int no : new int[] {-1, 8, -8, 64, Integer.MIN_VALUE, Integer.MAX_VALUE}) {
            for (int with : new int[] {0, 7, 8, no}) {
                CHECK.due("news(" + no + ", " + with + ", 0)", net.news(no, with, 0), -1);
                CHECK.due("news(" + with + ", " + no + ", 1)", net.news(with, no, 1), -1);
                CHECK.due("news(" + with + ", " + no + ", 11)", net.news(with, no, 11), -1);
            }
        }
    }

    private static void newsOfAnOriginThatIsNotKnown() {
        CHECK.sentence("8: NONE when it knows none");
        FloodingNet net = Nets.nodes(2);
        net.link(0, 1, 4, 2);
        net.tick(1);
        for (int what : new int[] {0, 1, 2, 10, 17}) {
            CHECK.due("not yet: news(0, 1, " + what + ")", net.news(0, 1, what), -1);
            CHECK.due("never: news(0, 2, " + what + ")", net.news(0, 2, what), -1);
            CHECK.due("not there: news(2, 2, " + what + ")", net.news(2, 2, what), -1);
        }
        net.tick(1);
        CHECK.due("now: news(0, 1, 0)", net.news(0, 1, 0), 2);
        CHECK.due("now: news(0, 1, 10)", net.news(0, 1, 10), 4);
        CHECK.due("now: news(0, 1, 17)", net.news(0, 1, 17), 0);
        net.crash(0);
        CHECK.due("no more: news(0, 1, 0)", net.news(0, 1, 0), -1);
        CHECK.due("no more: news(0, 0, 0)", net.news(0, 0, 0), -1);
    }

    private static void flyingFromNoneOn() {
        CHECK.sentence("9: How many pieces of news are in flight.");
        FloodingNet net = Nets.nodes(2);
        CHECK.due("without a link", net.flying(), 0);
        net.link(0, 1, 1, 2);
        CHECK.due("one each way", net.flying(), 2);
        net.tick(1);
        CHECK.due("before they arrive", net.flying(), 2);
        net.tick(1);
        CHECK.due("when they have", net.flying(), 0);
        net.send(0, 1, 1);
        CHECK.due("a packet is no news", net.flying(), 0);
        net.link(1, 2, 1, 2);
        net.start(2);
        // 1 tells 0 and 2, 2 tells 1, and 1 sends 2 what it knows of 0.
        CHECK.due("in each direction of each link, by origin", net.flying(), 4);
        net.crash(1);
        CHECK.due("over none that carries", net.flying(), 0);
    }

    private static void waysNodes() {
        CHECK.sentence("10 and 11: NONE when .. there are no such nodes");
        FloodingNet net = Nets.row(8);
        CHECK.due("distance(0, 7)", net.distance(0, 7), 7);
        CHECK.due("distance(7, 0)", net.distance(7, 0), 7);
        CHECK.due("next(0, 7)", net.next(0, 7), 1);
        CHECK.due("next(7, 0)", net.next(7, 0), 6);
        for (int no : new int[] {-1, 8, -8, 64, Integer.MIN_VALUE, Integer.MAX_VALUE}) {
            for (int with : new int[] {0, 7, 8, no}) {
                CHECK.due("distance(" + no + ", " + with + ")", net.distance(no, with), -1);
                CHECK.due("distance(" + with + ", " + no + ")", net.distance(with, no), -1);
                CHECK.due("next(" + no + ", " + with + ")", net.next(no, with), -1);
                CHECK.due("next(" + with + ", " + no + ")", net.next(with, no), -1);
            }
        }
    }

    private static void waysToItself() {
        CHECK.sentence("11: and when they are the same; (v itself has distance 0.)");
        FloodingNet net = Nets.row(3);
        net.start(7);
        for (int node : new int[] {0, 1, 2, 7}) {
            CHECK.due("distance(" + node + ", same)", net.distance(node, node), 0);
            CHECK.due("next(" + node + ", same)", net.next(node, node), -1);
        }
        CHECK.due("next(0, 1)", net.next(0, 1), 1);
        CHECK.due("distance(0, 1)", net.distance(0, 1), 1);
    }

    private static void waysOfANodeThatIsNotThere() {
        CHECK.sentence("10 and 11: NONE when it is not there");
        FloodingNet net = Nets.row(3);
        net.crash(2);
        CHECK.due("distance(2, 0)", net.distance(2, 0), -1);
        CHECK.due("distance(2, 2)", net.distance(2, 2), -1);
        CHECK.due("next(2, 1)", net.next(2, 1), -1);
        CHECK.due("next(2, 2)", net.next(2, 2), -1);
        // That the goal is not there is no matter, only what the node knows.
        CHECK.due("0 does not know it: distance(0, 2)", net.distance(0, 2), 2);
        CHECK.due("0 does not know it: next(0, 2)", net.next(0, 2), 1);
        net.start(2);
        CHECK.due("when it is there: distance(2, 2)", net.distance(2, 2), 0);
        net.tick(2);
        CHECK.due("when it is there: distance(2, 0)", net.distance(2, 0), 2);
    }

    private static void waysThatAreNotKnown() {
        CHECK.sentence("10 and 11: NONE when it .. knows no way");
        FloodingNet net = Nets.nodes(4);
        net.link(0, 1, 1, 1);
        net.link(1, 2, 1, 1);
        net.tick(1);
        CHECK.due("0 knows no news of 2: distance(0, 2)", net.distance(0, 2), -1);
        CHECK.due("0 knows no news of 2: next(0, 2)", net.next(0, 2), -1);
        net.tick(1);
        CHECK.due("now: distance(0, 2)", net.distance(0, 2), 2);
        CHECK.due("now: next(0, 2)", net.next(0, 2), 1);
        CHECK.due("no link to 3: distance(0, 3)", net.distance(0, 3), -1);
        CHECK.due("no link to 3: next(0, 3)", net.next(0, 3), -1);
        net.fail(1, 2);
        CHECK.due("1 tells no more of 2: distance(1, 2)", net.distance(1, 2), -1);
        CHECK.due("1 tells no more of 2: next(1, 2)", net.next(1, 2), -1);
    }

    private static void sendNodes() {
        CHECK.sentence("12: IllegalArgumentException when there are no such nodes");
        FloodingNet net = Nets.row(8);
        for (int no : NO_NODES) {
            CHECK.wrongArgument("send(" + no + ", 0, 1)", () -> net.send(no, 0, 1));
            CHECK.wrongArgument("send(0, " + no + ", 1)", () -> net.send(0, no, 1));
            CHECK.wrongArgument("send(" + no + ", same, 1)", () -> net.send(no, no, 1));
        }
        CHECK.due("send(0, 7, 7)", net.send(0, 7, 7), 0);
        CHECK.due("send(7, 0, 7)", net.send(7, 0, 7), 1);
        net.tick(7);
        CHECK.due("delivered at 7", net.packet(0, 17), 7);
        CHECK.due("delivered at 0", net.packet(1, 17), 0);
    }

    private static void sendLife() {
        CHECK.sentence("12: a life 0 .. 30; IllegalArgumentException when .. the life is out of its bounds");
        FloodingNet net = Nets.row(2);
        for (int life : Check.outside(0, 30)) {
            CHECK.wrongArgument("send(0, 1, " + life + ")", () -> net.send(0, 1, life));
        }
        CHECK.due("none was made", net.packet(0, 0), -1);
        CHECK.due("send(0, 1, 0)", net.send(0, 1, 0), 0);
        CHECK.due("send(0, 1, 30)", net.send(0, 1, 30), 1);
        CHECK.due("send(0, 0, 30)", net.send(0, 0, 30), 2);
        CHECK.due("the life 0", net.packet(0, 1), 0);
        CHECK.due("the life 30 is one less", net.packet(1, 1), 29);
        CHECK.due("the life 30 at the goal", net.packet(2, 1), 30);
    }

    private static void sendFromANodeThatIsNotThere() {
        CHECK.sentence("12: IllegalStateException when the node it is sent from is not there");
        FloodingNet net = Nets.row(2);
        CHECK.wrongState("from one that never came", () -> net.send(5, 0, 1));
        CHECK.wrongState("from one that never came to itself", () -> net.send(5, 5, 0));
        net.crash(1);
        CHECK.wrongState("from one that is gone", () -> net.send(1, 0, 1));
        CHECK.wrongState("from one that is gone to itself", () -> net.send(1, 1, 30));
        CHECK.due("none was made", net.packet(0, 0), -1);
        CHECK.due("to one that is gone", net.send(0, 1, 1), 0);
        CHECK.due("to one that never came", net.send(0, 5, 1), 1);
        net.start(1);
        CHECK.due("from one that is there again", net.send(1, 0, 1), 2);
    }

    private static void sendNumberTwenty() {
        CHECK.sentence("12: IllegalStateException when .. there were 20; PACKETS are numbered from 0, at most 20.");
        FloodingNet net = Nets.row(2);
        for (int i = 0; i < 20; i++) {
            CHECK.due("the number", net.send(0, 1, i), i);
        }
        CHECK.wrongState("a 21st", () -> net.send(0, 1, 1));
        CHECK.wrongState("a 21st that would be delivered at once", () -> net.send(0, 0, 1));
        CHECK.wrongState("a 21st from a node that is not there", () -> net.send(2, 0, 1));
        net.tick(1);
        CHECK.due("the first, of life 0, expired", net.packet(0, 0), 2);
        for (int i = 1; i < 20; i++) {
            CHECK.due("packet(" + i + ", 0)", net.packet(i, 0), 1);
            CHECK.due("packet(" + i + ", 1)", net.packet(i, 1), i - 1);
        }
        CHECK.due("packet(20, 0)", net.packet(20, 0), -1);
        CHECK.wrongState("a 21st when all have ended", () -> net.send(0, 1, 1));
    }

    private static void packetNumbers() {
        CHECK.sentence("13: NONE when there is no such packet");
        FloodingNet net = Nets.nodes(1);
        CHECK.due("packet(0, 0) before any", net.packet(0, 0), -1);
        for (int sent = 1; sent <= 20; sent++) {
            net.send(0, 0, 0);
            CHECK.due("the last of " + sent, net.packet(sent - 1, 0), 1);
            CHECK.due("one behind the last of " + sent, net.packet(sent, 0), -1);
            CHECK.due("its trace", net.packet(sent, 10), -1);
        }
        for (int number : Check.outside(0, 19)) {
            for (int what : new int[] {0, 1, 2, 10}) {
                CHECK.due("packet(" + number + ", " + what + ")", net.packet(number, what), -1);
            }
        }
        CHECK.due("packet(0, 0)", net.packet(0, 0), 1);
        CHECK.due("packet(19, 0)", net.packet(19, 0), 1);
    }

    private static void packetWhat() {
        CHECK.sentence("13: 10 + i the i-th of these, from 0 (NONE when there is none). NONE when .. nothing of these");
        FloodingNet net = Nets.row(3);
        net.send(0, 2, 5);
        CHECK.due("the 0-th", net.packet(0, 10), 0);
        CHECK.due("no 1st yet", net.packet(0, 11), -1);
        net.tick(2);
        CHECK.due("the 0-th", net.packet(0, 10), 0);
        CHECK.due("the 1st", net.packet(0, 11), 1);
        CHECK.due("the 2nd", net.packet(0, 12), 2);
        CHECK.due("no 3rd", net.packet(0, 13), -1);
        CHECK.due("how many", net.packet(0, 2), 3);
        for (int what : new int[] {-1, 3, 4, 9, 40, 41, 42, Integer.MIN_VALUE, Integer.MAX_VALUE}) {
            CHECK.due("packet(0, " + what + ")", net.packet(0, what), -1);
        }
    }

    private static void packetStates() {
        CHECK.sentence("13: what = 0: 0 under way, 1 delivered, 2 expired, 3 lost; 1: its life");
        FloodingNet net = Nets.row(2);
        net.send(0, 1, 1);
        net.send(0, 0, 1);
        net.send(0, 1, 0);
        net.send(0, 2, 1);
        int[] lives = {0, 1, 0, 1};
        for (int number = 0; number < 4; number++) {
            CHECK.due("packet(" + number + ", 0)", net.packet(number, 0), number);
            CHECK.due("packet(" + number + ", 1)", net.packet(number, 1), lives[number]);
            CHECK.due("packet(" + number + ", 2)", net.packet(number, 2), 1);
        }
        net.tick(1);
        CHECK.due("what was under way is delivered", net.packet(0, 0), 1);
        for (int number = 1; number < 4; number++) {
            CHECK.due("the others stay: packet(" + number + ", 0)", net.packet(number, 0), number);
        }
    }

    /** 0's last news reaches 2 over 1 before it comes straight, and 2 sends it back to 0, who knows it. */
    private static void settledNeedsNothingInFlight() {
        CHECK.sentence("14: Whether nothing is in flight");
        FloodingNet net = Nets.nodes(4);
        net.link(0, 1, 1, 1);
        net.link(1, 2, 1, 1);
        net.link(0, 2, 1, 8);
        net.link(0, 3, 1, 1);
        net.tick(20);
        CHECK.due("nothing flies", net.settled(), true);
        net.crash(3);
        net.tick(9);
        for (int node = 1; node < 3; node++) {
            CHECK.due("all know the same of 0", net.news(node, 0, 0), net.news(0, 0, 0));
        }
        CHECK.due("one piece flies", net.flying(), 1);
        CHECK.due("so it is not", net.settled(), false);
        net.tick(1);
        CHECK.due("none flies", net.flying(), 0);
        CHECK.due("so it is", net.settled(), true);
        net.send(0, 1, 1);
        CHECK.due("a packet under way is no news", net.settled(), true);
    }

    private static void settledDirectly() {
        CHECK.sentence("14: .. join, directly .. know the same numbers of each other");
        checkSettledDirectly(new int[] {0, 1, 2});
        checkSettledDirectly(new int[] {1, 0, 2});
        checkSettledDirectly(new int[] {5, 7, 0});
    }

    /**
     * In a row a - b - c, b comes and takes the old number 4 of c, which a kept, for newer than c's new number 2; a
     * tick later the old news is 60 old. So b knows none of c, and nothing is in flight, until c tells again.
     */
    private static void checkSettledDirectly(int[] row) {
        FloodingNet net = Nets.nodes(8);
        net.link(row[0], row[1], 1, 8);
        net.link(row[1], row[2], 1, 1);
        net.tick(20);
        net.fail(row[1], row[2]);
        net.restore(row[1], row[2]);
        net.tick(10);
        CHECK.due("a knows number 4 of c", net.news(row[0], row[2], 0), 4);
        net.crash(row[1]);
        net.crash(row[2]);
        net.tick(41);
        net.start(row[2]);
        net.start(row[1]);
        net.tick(8);
        CHECK.due("b took it", net.news(row[1], row[2], 1), 59);
        net.tick(9);
        CHECK.due("nothing flies", net.flying(), 0);
        CHECK.due("a knows number 2 of c", net.news(row[0], row[2], 0), 2);
        CHECK.due("as c does", net.news(row[2], row[2], 0), 2);
        CHECK.due("b knows none", net.news(row[1], row[2], 0), -1);
        CHECK.due("so it is not settled", net.settled(), false);
        net.tick(42);
        CHECK.due("b knows number 3", net.news(row[1], row[2], 0), 3);
        CHECK.due("now it is", net.settled(), true);
    }

    private static void settledOverOthers() {
        CHECK.sentence("14: .. join, .. or over others, know the same numbers of each other");
        checkSettledOverOthers(new int[] {0, 1, 2, 3});
        checkSettledOverOthers(new int[] {3, 2, 1, 0});
        checkSettledOverOthers(new int[] {1, 7, 0, 2});
    }

    /**
     * In a row a - b - c - d, a keeps the number 4 of d from before b, c and d came again, and b takes it when it is
     * 59 old: it is forgotten before it reaches c. So neighbours know the same of each other, but a and b know none
     * of d.
     */
    private static void checkSettledOverOthers(int[] row) {
        FloodingNet net = Nets.nodes(8);
        net.link(row[0], row[1], 1, 8);
        net.link(row[1], row[2], 1, 1);
        net.link(row[2], row[3], 1, 1);
        net.fail(row[2], row[3]);
        net.restore(row[2], row[3]);
        net.tick(20);
        CHECK.due("all know all", net.settled(), true);
        net.fail(row[0], row[1]);
        for (int i = 1; i <= 3; i++) {
            net.crash(row[i]);
        }
        net.tick(25);
        for (int i = 1; i <= 3; i++) {
            net.start(row[i]);
        }
        for (int i = 0; i < 2; i++) {
            net.fail(row[1], row[2]);
            net.restore(row[1], row[2]);
        }
        net.tick(6);
        net.restore(row[0], row[1]);
        net.tick(8);
        CHECK.due("b took the old number of d", net.news(row[1], row[3], 1), 59);
        net.tick(8);
        CHECK.due("nothing flies", net.flying(), 0);
        for (int i = 0; i < 3; i++) {
            int u = row[i];
            int v = row[i + 1];
            CHECK.due("neighbours agree", net.news(u, u, 0), net.news(v, u, 0));
            CHECK.due("neighbours agree", net.news(v, v, 0), net.news(u, v, 0));
        }
        CHECK.due("a knows none of d", net.news(row[0], row[3], 0), -1);
        CHECK.due("so it is not settled", net.settled(), false);
        net.tick(34);
        CHECK.due("a knows of d", net.news(row[0], row[3], 0), 2);
        CHECK.due("now it is", net.settled(), true);
    }

    private static void settledApart() {
        CHECK.sentence("14: all nodes that links that carry join .. know the same numbers of each other");
        FloodingNet net = Nets.row(4);
        CHECK.due("a row", net.settled(), true);
        net.fail(1, 2);
        net.tick(5);
        CHECK.due("0 knows an older number of 2", net.news(0, 2, 0), 3);
        CHECK.due("than 3 does", net.news(3, 2, 0), 4);
        CHECK.due("but no link that carries joins them", net.settled(), true);
        net.crash(0);
        CHECK.due("1 knows older news of 0, which is not there", net.settled(), true);
        net.start(5);
        CHECK.due("5 knows nothing of the others, alone", net.settled(), true);
    }

    /**
     * 0 and 1 know the number 2 of 2, each from another time that 2 came. So they have nothing to send one another
     * about it, and 0 forgets it while 1 knows it.
     */
    private static void settledOfNodesOutside() {
        CHECK.sentence("14: .. know the same numbers of each other");
        FloodingNet net = Nets.nodes(3);
        net.link(0, 2, 1, 1);
        net.tick(1);
        net.crash(2);
        net.fail(0, 2);
        net.tick(30);
        net.start(2);
        net.link(1, 2, 1, 1);
        net.tick(1);
        net.fail(1, 2);
        net.link(0, 1, 1, 1);
        net.tick(27);
        CHECK.due("0 knows a number of 2", net.news(0, 2, 0), 2);
        CHECK.due("1 knows the same", net.news(1, 2, 0), 2);
        CHECK.due("though 2 made a newer one", net.settled(), true);
        net.tick(1);
        CHECK.due("0 knows none", net.news(0, 2, 0), -1);
        CHECK.due("1 knows one", net.news(1, 2, 0), 2);
        CHECK.due("but 2 is not joined with them", net.settled(), true);
        net.crash(2);
        CHECK.due("nor is it when it is not there", net.settled(), true);
    }
}
