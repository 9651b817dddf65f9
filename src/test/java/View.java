/**
 * All that an object answers, in parts: an object serves for 512 calls, so that one object can be asked for a part
 * twice, but not for all.
 */
final class View {

    static final int PARTS = 9;

    private static final int[] WHATS_OF_NEWS = {0, 1, 2, 10, 11, 12, 13, 14, 15, 16, 17};

    private View() {
    }

    /** At most 180 calls; part 0 .. 3 the news that two nodes know, 4 the ways, 5 .. 8 five packets. */
    static String ask(FloodingNet net, int part) {
        StringBuilder answers = new StringBuilder();
        answers.append("flying ").append(net.flying()).append(", settled ").append(net.settled());
        if (part < 4) {
            askNews(net, 2 * part, answers);
            askNews(net, 2 * part + 1, answers);
        } else if (part == 4) {
            askWays(net, answers);
        } else {
            for (int number = 5 * (part - 5); number < 5 * (part - 4); number++) {
                askPacket(net, number, answers);
            }
        }
        return answers.toString();
    }

    private static void askNews(FloodingNet net, int node, StringBuilder answers) {
        for (int origin = 0; origin < 8; origin++) {
            answers.append("; ").append(node).append(" of ").append(origin).append(':');
            for (int what : WHATS_OF_NEWS) {
                answers.append(' ').append(net.news(node, origin, what));
            }
        }
    }

    private static void askWays(FloodingNet net, StringBuilder answers) {
        for (int node = 0; node < 8; node++) {
            answers.append("; ways of ").append(node).append(':');
            for (int to = 0; to < 8; to++) {
                answers.append(' ').append(net.distance(node, to)).append('/').append(net.next(node, to));
            }
        }
    }

    private static void askPacket(FloodingNet net, int number, StringBuilder answers) {
        answers.append("; packet ").append(number).append(':');
        for (int what = 0; what <= 2; what++) {
            answers.append(' ').append(net.packet(number, what));
        }
        for (int i = 0; i <= 30; i++) {
            answers.append(' ').append(net.packet(number, 10 + i));
        }
    }
}
