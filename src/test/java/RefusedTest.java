import java.util.ArrayList;
import java.util.List;

/**
 * What throws, and what answers false or NONE, leaves everything as it was; and the exceptions are tested in the
 * order in which they are named. Each such call is made on nets in several states; before and after it the net is
 * asked for all it answers, and a net on which it was made goes on like one on which it was not.
 */
public final class RefusedTest {

    private static final Check CHECK = new Check("RefusedTest");

    private static final String ARGUMENT = Call.ARGUMENT;
    private static final String STATE = Call.STATE;
    private static final String NO = "0";
    private static final String NONE = "-1";

    private static final String[] STATES = {"empty", "busy", "full", "old"};

    public static void main(String[] args) {
        for (String state : STATES) {
            CHECK.sentence("What throws leaves everything as it was; state: " + state);
            wrongNumbersChangeNothing(state);
        }
        CHECK.sentence("What throws leaves everything as it was; IllegalStateException");
        wrongStatesChangeNothing();
        CHECK.sentence("false when it is down, up, there, not there");
        falseChangesNothing();
        CHECK.sentence("NONE when there is no such ..");
        askingChangesNothing();
        CHECK.sentence("the exceptions are tested in the order in which they are named");
        argumentsAreTestedFirst();
        CHECK.end();
    }

    private static FloodingNet make(String state) {
        return switch (state) {
            case "busy" -> busy();
            case "full" -> full();
            case "old" -> old();
            default -> new FloodingNet();
        };
    }

    /** News and packets on links of several delays, a link that is down, and nodes 6, which is gone, and 7. */
    private static FloodingNet busy() {
        FloodingNet net = Nets.nodes(7);
        net.link(0, 1, 3, 1);
        net.link(1, 2, 4, 2);
        net.link(2, 3, 5, 3);
        net.link(3, 0, 6, 8);
        net.link(3, 4, 7, 5);
        net.link(4, 6, 8, 1);
        net.tick(30);
        net.send(0, 0, 4);
        net.send(0, 3, 0);
        net.send(0, 7, 4);
        net.crash(6);
        net.fail(3, 4);
        net.tick(2);
        net.send(0, 3, 4);
        net.send(1, 3, 30);
        net.send(2, 0, 1);
        net.tick(1);
        return net;
    }

    /** All nodes, twelve links, one of them down, and twenty packets; news and packets are on their way. */
    private static FloodingNet full() {
        FloodingNet net = Nets.full();
        for (int node = 0; node < 8; node++) {
            net.start(node);
        }
        net.tick(4);
        net.fail(0, 1);
        for (int i = 0; i < 20; i++) {
            net.send(i % 7, i % 3, i);
        }
        return net;
    }

    /** In the next tick nodes tell again, news is forgotten, and packets and news arrive. */
    private static FloodingNet old() {
        FloodingNet net = Nets.nodes(4);
        net.link(0, 1, 1, 1);
        net.link(0, 2, 1, 1);
        net.link(2, 3, 1, 4);
        net.tick(5);
        net.crash(1);
        net.tick(15);
        net.fail(2, 3);
        net.tick(36);
        net.restore(2, 3);
        net.tick(3);
        net.send(0, 2, 3);
        return net;
    }

    private static void wrongNumbersChangeNothing(String state) {
        for (Call call : wrongNumbers()) {
            changesNothing(state, call, ARGUMENT);
        }
    }

    private static List<Call> wrongNumbers() {
        List<Call> calls = new ArrayList<>();
        for (int no : Check.outside(0, 7)) {
            calls.add(new Call("link", no, 5, 1, 1));
            calls.add(new Call("link", 5, no, 1, 1));
            calls.add(new Call("fail", no, 1, 0, 0));
            calls.add(new Call("fail", 0, no, 0, 0));
            calls.add(new Call("restore", no, 1, 0, 0));
            calls.add(new Call("restore", 0, no, 0, 0));
            calls.add(new Call("start", no, 0, 0, 0));
            calls.add(new Call("crash", no, 0, 0, 0));
            calls.add(new Call("send", no, 1, 1, 0));
            calls.add(new Call("send", 0, no, 1, 0));
        }
        for (int n : Check.outside(1, 50)) {
            calls.add(new Call("tick", n, 0, 0, 0));
            calls.add(new Call("link", 3, 5, n, 1));
        }
        for (int delay : Check.outside(1, 8)) {
            calls.add(new Call("link", 3, 5, 1, delay));
        }
        for (int life : Check.outside(0, 30)) {
            calls.add(new Call("send", 0, 1, life, 0));
        }
        calls.add(new Call("link", 3, 3, 1, 1));
        calls.add(new Call("fail", 5, 7, 0, 0));
        calls.add(new Call("restore", 7, 5, 0, 0));
        calls.add(new Call("fail", 2, 2, 0, 0));
        calls.add(new Call("restore", 2, 2, 0, 0));
        return calls;
    }

    private static void wrongStatesChangeNothing() {
        changesNothing("empty", new Call("send", 0, 1, 1, 0), STATE);
        changesNothing("empty", new Call("send", 7, 7, 0, 0), STATE);
        for (String state : new String[] {"busy", "old"}) {
            changesNothing(state, new Call("link", 0, 1, 9, 7), STATE);
            changesNothing(state, new Call("link", 3, 2, 9, 7), STATE);
        }
        changesNothing("busy", new Call("link", 4, 3, 9, 7), STATE);
        changesNothing("busy", new Call("link", 4, 6, 9, 7), STATE);
        changesNothing("busy", new Call("send", 6, 0, 1, 0), STATE);
        changesNothing("busy", new Call("send", 7, 7, 0, 0), STATE);
        changesNothing("old", new Call("send", 1, 0, 30, 0), STATE);
        changesNothing("full", new Call("link", 0, 2, 9, 7), STATE);
        changesNothing("full", new Call("link", 1, 0, 9, 7), STATE);
        changesNothing("full", new Call("link", 2, 3, 9, 7), STATE);
        changesNothing("full", new Call("link", 7, 6, 9, 7), STATE);
        changesNothing("full", new Call("send", 0, 1, 1, 0), STATE);
        changesNothing("full", new Call("send", 0, 0, 0, 0), STATE);
    }

    private static void falseChangesNothing() {
        changesNothing("empty", new Call("crash", 0, 0, 0, 0), NO);
        changesNothing("empty", new Call("crash", 7, 0, 0, 0), NO);
        changesNothing("busy", new Call("fail", 3, 4, 0, 0), NO);
        changesNothing("busy", new Call("fail", 4, 3, 0, 0), NO);
        changesNothing("busy", new Call("restore", 0, 1, 0, 0), NO);
        changesNothing("busy", new Call("restore", 3, 2, 0, 0), NO);
        changesNothing("busy", new Call("restore", 4, 6, 0, 0), NO);
        changesNothing("busy", new Call("start", 0, 0, 0, 0), NO);
        changesNothing("busy", new Call("start", 5, 0, 0, 0), NO);
        changesNothing("busy", new Call("crash", 6, 0, 0, 0), NO);
        changesNothing("busy", new Call("crash", 7, 0, 0, 0), NO);
        changesNothing("full", new Call("fail", 1, 0, 0, 0), NO);
        changesNothing("full", new Call("restore", 7, 0, 0, 0), NO);
        changesNothing("full", new Call("start", 7, 0, 0, 0), NO);
        changesNothing("old", new Call("restore", 2, 0, 0, 0), NO);
        changesNothing("old", new Call("start", 2, 0, 0, 0), NO);
        changesNothing("old", new Call("crash", 1, 0, 0, 0), NO);
    }

    private static void askingChangesNothing() {
        for (String state : STATES) {
            for (int no : Check.outside(0, 7)) {
                changesNothing(state, new Call("news", no, 0, 0, 0), NONE);
                changesNothing(state, new Call("news", 0, no, 1, 0), NONE);
                changesNothing(state, new Call("distance", no, 0, 0, 0), NONE);
                changesNothing(state, new Call("next", 0, no, 0, 0), NONE);
            }
            for (int what : new int[] {-1, 3, 9, 18, Integer.MIN_VALUE, Integer.MAX_VALUE}) {
                changesNothing(state, new Call("news", 0, 0, what, 0), NONE);
            }
            for (int number : Check.outside(0, 19)) {
                changesNothing(state, new Call("packet", number, 0, 0, 0), NONE);
            }
        }
    }

    private static void argumentsAreTestedFirst() {
        // In the full net each of these would else be refused for its state.
        changesNothing("full", new Call("link", 2, 3, 0, 1), ARGUMENT);
        changesNothing("full", new Call("link", 2, 3, 1, 9), ARGUMENT);
        changesNothing("full", new Call("link", 2, 2, 1, 1), ARGUMENT);
        changesNothing("full", new Call("link", 2, 8, 1, 1), ARGUMENT);
        changesNothing("full", new Call("link", 0, 1, 51, 1), ARGUMENT);
        changesNothing("full", new Call("link", 1, 0, 1, 0), ARGUMENT);
        changesNothing("full", new Call("send", 8, 0, 1, 0), ARGUMENT);
        changesNothing("full", new Call("send", 0, -1, 1, 0), ARGUMENT);
        changesNothing("full", new Call("send", 0, 1, 31, 0), ARGUMENT);
        changesNothing("busy", new Call("link", 0, 1, 0, 1), ARGUMENT);
        changesNothing("busy", new Call("link", 1, 0, 1, 9), ARGUMENT);
        changesNothing("busy", new Call("send", 7, 0, -1, 0), ARGUMENT);
        changesNothing("busy", new Call("send", 6, 8, 1, 0), ARGUMENT);
        changesNothing("empty", new Call("send", 0, 1, 31, 0), ARGUMENT);
        changesNothing("empty", new Call("send", 0, 8, 1, 0), ARGUMENT);
    }

    private static void changesNothing(String state, Call call, String due) {
        for (int part = 0; part < View.PARTS; part++) {
            FloodingNet net = make(state);
            String before = View.ask(net, part);
            CHECK.due(state + ": " + call, call.on(net), due);
            CHECK.due(state + ": after " + call, View.ask(net, part), before);
        }
        for (int part = 0; part < View.PARTS; part += 4) {
            FloodingNet net = make(state);
            call.on(net);
            FloodingNet twin = make(state);
            CHECK.due(state + ": going on after " + call, goOn(net), goOn(twin));
            CHECK.due(state + ": later, after " + call, View.ask(net, part), View.ask(twin, part));
        }
    }

    /** Calls that bring to light what no answer shows at once: the time, which links there are and what they are. */
    private static String goOn(FloodingNet net) {
        StringBuilder answers = new StringBuilder();
        answers.append(net.tick(1));
        for (int u = 0; u < 8; u++) {
            for (int v = u + 1; v < 8; v++) {
                answers.append(' ').append(new Call("restore", u, v, 0, 0).on(net));
            }
        }
        for (int node = 0; node < 8; node++) {
            answers.append(' ').append(net.start(node));
        }
        answers.append(' ').append(new Call("link", 5, 7, 2, 2).on(net));
        answers.append(' ').append(net.tick(7));
        answers.append(' ').append(new Call("send", 0, 3, 30, 0).on(net));
        answers.append(' ').append(net.tick(2));
        return answers.toString();
    }
}
