/** Promises 12 and 13: send and packet. */
public final class PacketsTest {

    private static final Check CHECK = new Check("PacketsTest");

    public static void main(String[] args) {
        sendRefusesWrongArguments();
        sendRefusesInWrongState();
        numbersAndTwentyAtMost();
        deliveredAtOnce();
        deliveredFromHopToHop();
        expired();
        lostWithoutAWay();
        lostOnItsWay();
        goesByWhatEachNodeKnowsThen();
        longWay();
        goesToAndFroUntilItsLifeEnds();
        packetOfNothing();
        CHECK.end();
    }

    private static void sendRefusesWrongArguments() {
        FloodingNet net = Nets.row(2);
        int[][] wrong = {
            {-1, 0, 1}, {8, 0, 1}, {0, -1, 1}, {0, 8, 1}, {0, 1, -1}, {0, 1, 31},
            {Integer.MIN_VALUE, 0, 1}, {0, Integer.MAX_VALUE, 1}, {0, 1, Integer.MAX_VALUE},
            {0, 1, Integer.MIN_VALUE}, {5, 1, 31}, {5, 8, 1},
        };
        for (int[] w : wrong) {
            CHECK.wrongArgument("send" + java.util.Arrays.toString(w), () -> net.send(w[0], w[1], w[2]));
        }
        CHECK.due("none was made", net.packet(0, 0), -1);
        CHECK.due("the first one is 0", net.send(0, 1, 30), 0);
    }

    private static void sendRefusesInWrongState() {
        FloodingNet net = Nets.row(2);
        CHECK.wrongState("from a node that never came", () -> net.send(5, 0, 1));
        net.crash(1);
        CHECK.wrongState("from a node that is gone", () -> net.send(1, 0, 1));
        CHECK.wrongState("to itself", () -> net.send(1, 1, 1));
        CHECK.due("none was made", net.packet(0, 0), -1);
        CHECK.due("to a node that is gone", net.send(0, 1, 1), 0);
    }

    private static void numbersAndTwentyAtMost() {
        FloodingNet net = Nets.row(2);
        for (int i = 0; i < 20; i++) {
            CHECK.due("send number " + i, net.send(0, 1, i), i);
        }
        CHECK.wrongState("the 21st", () -> net.send(0, 1, 1));
        CHECK.wrongState("the 21st at once delivered", () -> net.send(0, 0, 1));
        CHECK.wrongArgument("the 21st with a wrong life", () -> net.send(0, 1, 31));
        net.tick(1);
        CHECK.due("the first, of life 0, expired", net.packet(0, 0), 2);
        for (int i = 1; i < 20; i++) {
            CHECK.due("number " + i + " is delivered", net.packet(i, 0), 1);
            CHECK.due("its life", net.packet(i, 1), i - 1);
        }
        CHECK.due("there is no 21st", net.packet(20, 0), -1);
        CHECK.wrongState("also when all have ended", () -> net.send(0, 1, 1));
    }

    private static void deliveredAtOnce() {
        FloodingNet net = Nets.nodes(1);
        net.send(0, 0, 0);
        CHECK.due("delivered, though its life is 0", net.packet(0, 0), 1);
        CHECK.due("its life", net.packet(0, 1), 0);
        CHECK.due("its trace", net.packet(0, 2), 1);
        CHECK.due("the node", net.packet(0, 10), 0);
        CHECK.due("no other", net.packet(0, 11), -1);
    }

    private static void deliveredFromHopToHop() {
        FloodingNet net = Nets.nodes(3);
        net.link(0, 1, 1, 2);
        net.link(1, 2, 1, 3);
        net.tick(10);
        net.send(0, 2, 2);
        CHECK.due("under way", net.packet(0, 0), 0);
        CHECK.due("life", net.packet(0, 1), 1);
        CHECK.due("trace", net.packet(0, 2), 1);
        net.tick(1);
        CHECK.due("not yet at 1", net.packet(0, 2), 1);
        net.tick(1);
        CHECK.due("at 1 and on", net.packet(0, 2), 2);
        CHECK.due("life", net.packet(0, 1), 0);
        CHECK.due("under way", net.packet(0, 0), 0);
        net.tick(2);
        CHECK.due("not yet at 2", net.packet(0, 0), 0);
        net.tick(1);
        CHECK.due("delivered", net.packet(0, 0), 1);
        CHECK.due("trace", net.packet(0, 2), 3);
        CHECK.due("first", net.packet(0, 10), 0);
        CHECK.due("second", net.packet(0, 11), 1);
        CHECK.due("third", net.packet(0, 12), 2);
        CHECK.due("fourth", net.packet(0, 13), -1);
        net.tick(10);
        CHECK.due("it stays there", net.packet(0, 2), 3);
        net.crash(2);
        CHECK.due("what is delivered is not lost", net.packet(0, 0), 1);
    }

    private static void expired() {
        FloodingNet net = Nets.row(3);
        net.send(0, 2, 1);
        net.send(0, 2, 0);
        net.send(0, 5, 0);
        CHECK.due("of life 1: under way", net.packet(0, 0), 0);
        CHECK.due("of life 0: expired at once", net.packet(1, 0), 2);
        CHECK.due("its trace", net.packet(1, 2), 1);
        CHECK.due("of life 0 without a way: expired too", net.packet(2, 0), 2);
        net.tick(1);
        CHECK.due("of life 1: expired", net.packet(0, 0), 2);
        CHECK.due("its life", net.packet(0, 1), 0);
        CHECK.due("at 1", net.packet(0, 11), 1);
        CHECK.due("its trace", net.packet(0, 2), 2);
    }

    private static void lostWithoutAWay() {
        FloodingNet net = Nets.row(2);
        net.send(0, 5, 4);
        CHECK.due("lost", net.packet(0, 0), 3);
        CHECK.due("its life is as it was", net.packet(0, 1), 4);
        CHECK.due("its trace", net.packet(0, 2), 1);
        CHECK.due("the node", net.packet(0, 10), 0);
    }

    private static void lostOnItsWay() {
        FloodingNet net = Nets.row(3);
        net.crash(2);
        CHECK.due("0 has not heard that 2 is gone", net.next(0, 2), 1);
        net.send(0, 2, 5);
        CHECK.due("under way", net.packet(0, 0), 0);
        net.tick(1);
        CHECK.due("lost at 1", net.packet(0, 0), 3);
        CHECK.due("its life", net.packet(0, 1), 4);
        CHECK.due("its trace", net.packet(0, 2), 2);
        CHECK.due("the last one", net.packet(0, 11), 1);
    }

    private static void goesByWhatEachNodeKnowsThen() {
        FloodingNet net = Nets.diamond();
        net.send(0, 3, 9);
        CHECK.due("0 sends it over 1", net.next(0, 3), 1);
        net.fail(1, 3);
        net.tick(1);
        // 1 knows that its link failed: the way is back over 0 and 2.
        CHECK.due("1 sends it back", net.next(1, 3), 0);
        net.tick(3);
        CHECK.due("delivered", net.packet(0, 0), 1);
        int[] trace = {0, 1, 0, 2, 3};
        CHECK.due("trace", net.packet(0, 2), trace.length);
        for (int i = 0; i < trace.length; i++) {
            CHECK.due("trace " + i, net.packet(0, 10 + i), trace[i]);
        }
        CHECK.due("life", net.packet(0, 1), 5);
    }

    private static void longWay() {
        FloodingNet net = Nets.row(8);
        net.send(0, 7, 30);
        net.tick(7);
        CHECK.due("delivered after seven hops", net.packet(0, 0), 1);
        CHECK.due("life", net.packet(0, 1), 23);
        CHECK.due("trace", net.packet(0, 2), 8);
        for (int i = 0; i < 8; i++) {
            CHECK.due("trace " + i, net.packet(0, 10 + i), i);
        }
        CHECK.due("none after it", net.packet(0, 18), -1);
    }

    /**
     * The link 1 - 2 goes down and up each tick, so that what 1 and 2 tell 0 is replaced in flight and never
     * arrives: 0 sends the packet to 1, and 1, whose link is down whenever the packet is there, back to 0.
     */
    private static void goesToAndFroUntilItsLifeEnds() {
        FloodingNet net = Nets.nodes(3);
        net.link(0, 1, 1, 2);
        net.link(1, 2, 1, 8);
        net.link(0, 2, 50, 2);
        net.tick(10);
        net.fail(1, 2);
        net.send(1, 2, 20);
        net.restore(1, 2);
        for (int i = 0; i < 20; i++) {
            CHECK.due("under way", net.packet(0, 0), 0);
            net.tick(1);
            net.fail(1, 2);
            net.tick(1);
            net.restore(1, 2);
        }
        CHECK.due("expired", net.packet(0, 0), 2);
        CHECK.due("life", net.packet(0, 1), 0);
        CHECK.due("trace", net.packet(0, 2), 21);
        for (int i = 0; i <= 20; i++) {
            CHECK.due("trace " + i, net.packet(0, 10 + i), 1 - i % 2);
        }
        CHECK.due("none after it", net.packet(0, 31), -1);
    }

    private static void packetOfNothing() {
        FloodingNet net = Nets.row(2);
        net.send(0, 1, 3);
        for (int number : new int[] {-1, 1, 19, 20, Integer.MIN_VALUE, Integer.MAX_VALUE}) {
            CHECK.due("packet(" + number + ", 0)", net.packet(number, 0), -1);
        }
        for (int what : new int[] {-1, 3, 9, 11, 40, 41, 42, Integer.MIN_VALUE, Integer.MAX_VALUE}) {
            CHECK.due("packet(0, " + what + ")", net.packet(0, what), -1);
        }
    }
}
