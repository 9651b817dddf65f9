/** Promise 7: tick, with what happens in it and in which order; its bounds are in BoundsTest and TermsTest. */
public final class TickTest {

    private static final Check CHECK = new Check("TickTest");

    public static void main(String[] args) {
        newsGrowsOld();
        newsFloodsFromHopToHop();
        olderNewsIsAnsweredWithNewer();
        sameNewsInFlightIsNotSentAgain();
        tellingAgainComesBeforeReceiving();
        newsIsReceivedBeforePackets();
        CHECK.end();
    }

    private static void newsGrowsOld() {
        FloodingNet net = Nets.nodes(2);
        net.link(0, 1, 1, 5);
        net.tick(4);
        CHECK.due("known news is 4 old", net.news(0, 0, 1), 4);
        net.tick(1);
        CHECK.due("news grew old in flight", net.news(1, 0, 1), 5);
        net.tick(34);
        CHECK.due("39 old", net.news(1, 0, 1), 39);
    }

    private static void newsFloodsFromHopToHop() {
        FloodingNet net = Nets.row(4);
        net.link(0, 4, 9, 1);
        net.start(4);
        net.tick(1);
        CHECK.due("1 heard of 0's new link", net.news(1, 0, 14), 9);
        CHECK.due("2 did not yet", net.news(2, 0, 14), 0);
        net.tick(1);
        CHECK.due("2 heard", net.news(2, 0, 14), 9);
        CHECK.due("with its age", net.news(2, 0, 1), 2);
        CHECK.due("news of 0 flies to 3, news of 4 to 2", net.flying(), 2);
        net.tick(1);
        CHECK.due("3 heard", net.news(3, 0, 14), 9);
        CHECK.due("3 has nobody to send it to", net.flying(), 1);
        net.tick(1);
        CHECK.due("3 heard of 4", net.news(3, 4, 0), 1);
        CHECK.due("nothing flies back", net.flying(), 0);
    }

    private static void olderNewsIsAnsweredWithNewer() {
        FloodingNet net = Nets.row(3);
        // 2 is cut off and keeps its news of 0, while 0 tells again because of its link to 4.
        net.fail(1, 2);
        net.link(0, 4, 1, 1);
        net.start(4);
        net.tick(5);
        CHECK.due("1 knows the newer news of 0", net.news(1, 0, 0), 3);
        CHECK.due("2 knows the older", net.news(2, 0, 0), 2);
        net.restore(1, 2);
        // 1 tells 0 and 2 and sends 2 its news of 0, 2, 4; 2 tells 1 and sends it its news of 0, 1.
        CHECK.due("flying", net.flying(), 8);
        net.tick(1);
        CHECK.due("2 knows the newer", net.news(2, 0, 0), 3);
        CHECK.due("1 keeps the newer", net.news(1, 0, 0), 3);
        // 0 sends 4 the news of 1, 1 sends 0 that of 2, and 1 answers 2's older news of 0.
        CHECK.due("the answer flies", net.flying(), 3);
        net.tick(1);
        CHECK.due("it is known already and goes nowhere", net.flying(), 1);
        net.tick(1);
        CHECK.due("settled", net.settled(), true);
    }

    private static void sameNewsInFlightIsNotSentAgain() {
        // As the link comes up, 0 tells and then sends all it knows: its own news flies already.
        FloodingNet net = Nets.nodes(2);
        net.link(0, 1, 1, 4);
        CHECK.due("each flies once", net.flying(), 2);
        net.tick(4);
        CHECK.due("none arrives later", net.flying(), 0);

        // 3 hears of 0 over 1 and over 2 and sends it to 4; the second time it knows it and sends none.
        FloodingNet two = Nets.diamond();
        two.link(3, 4, 1, 3);
        two.start(4);
        two.tick(10);
        two.link(0, 5, 1, 8);
        two.start(5);
        two.tick(2);
        CHECK.due("3 knows the new news of 0", two.news(3, 0, 15), 1);
        // Five from 0 to 5 and one back; from 3 one to 4 and one to 2, as it came over 1 first.
        CHECK.due("flying", two.flying(), 8);
    }

    /**
     * 2 came anew and is at number 3; its old number 4, which 0 kept, reaches it when its news is 40 old. It
     * tells first, with the number 4: so what it receives is not greater.
     */
    private static void tellingAgainComesBeforeReceiving() {
        FloodingNet net = Nets.nodes(3);
        net.link(0, 1, 1, 1);
        net.link(1, 2, 1, 1);
        net.fail(1, 2);
        net.restore(1, 2);
        net.tick(5);
        CHECK.due("0 knows number 4 of 2", net.news(0, 2, 0), 4);
        net.fail(0, 1);
        net.crash(1);
        net.crash(2);
        net.start(1);
        net.start(2);
        net.fail(1, 2);
        net.restore(1, 2);
        CHECK.due("2 is at number 3", net.news(2, 2, 0), 3);
        net.tick(38);
        net.restore(0, 1);
        net.tick(1);
        CHECK.due("1 took the old number 4", net.news(1, 2, 1), 44);
        CHECK.due("2 is still at number 3", net.news(2, 2, 1), 39);
        net.tick(1);
        CHECK.due("2 told again", net.news(2, 2, 1), 0);
        CHECK.due("with the number 4", net.news(2, 2, 0), 4);
        net.tick(2);
        CHECK.due("and no more", net.news(2, 2, 0), 4);
    }

    private static void newsIsReceivedBeforePackets() {
        // 1 hears that 2 - 3 failed in the very tick in which the packet for 3 reaches it.
        FloodingNet net = Nets.row(4);
        net.link(1, 4, 20, 1);
        net.link(4, 3, 20, 1);
        net.start(4);
        net.tick(10);
        net.send(0, 3, 9);
        net.fail(2, 3);
        net.tick(1);
        net.tick(2);
        CHECK.due("the packet took the other way", net.packet(0, 0), 1);
        CHECK.due("over 4", net.packet(0, 12), 4);
    }
}
