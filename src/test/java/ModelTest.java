import java.util.Random;

/** Long runs of calls, the same every time, on the program and on the model: all answers must be the same. */
public final class ModelTest {

    private static final Check CHECK = new Check("ModelTest");
    private static final int RUNS = 4000;

    /** An object serves for so many; nothing is promised of later ones. */
    private static final int CALLS = 512;

    private final Random random;
    private final FloodingNet net = new FloodingNet();
    private final Model model = new Model();
    private final int run;
    private final int mostDelay;
    private final int mostTicks;
    private final int mostNodes;
    private final int questions;
    private int calls;

    private ModelTest(int run) {
        this.run = run;
        random = new Random(run);
        mostDelay = run % 3 == 0 ? 1 : run % 3 == 1 ? 4 : 8;
        mostTicks = run % 4 == 0 ? 50 : run % 4 == 1 ? 12 : 3;
        mostNodes = run % 5 == 0 ? 3 : run % 5 == 1 ? 5 : 8;
        questions = run % 7 == 0 ? 2 : 6;
    }

    public static void main(String[] args) {
        for (int run = 0; run < RUNS; run++) {
            new ModelTest(run).compareRun();
        }
        CHECK.end();
    }

    private void compareRun() {
        for (int i = 0; calls + 1 + questions <= CALLS; i++) {
            Call call = anyCall(i);
            CHECK.due("run " + run + ": " + call, call.on(net), call.on(model));
            for (int k = 0; k < questions; k++) {
                compareOne(k, "run " + run + ", after call " + i + ", " + call + ": ");
            }
            calls += 1 + questions;
        }
    }

    private Call anyCall(int i) {
        int u = node();
        int v = node();
        switch (i < 12 ? i % 2 : random.nextInt(14)) {
            case 0:
            case 6:
                return new Call("start", u, 0, 0, 0);
            case 1:
                return new Call("link", u, v, odd() ? random.nextInt(60) - 5 : 1 + random.nextInt(6),
                        odd() ? random.nextInt(12) - 1 : 1 + random.nextInt(mostDelay));
            case 2:
                return new Call("fail", u, v, 0, 0);
            case 3:
            case 4:
                return new Call("restore", u, v, 0, 0);
            case 5:
                return new Call("crash", u, 0, 0, 0);
            case 7:
            case 8:
                return new Call("send", u, v, odd() ? random.nextInt(40) - 4 : random.nextInt(12), 0);
            default:
                return new Call("tick", odd() ? random.nextInt(60) - 4 : 1 + random.nextInt(mostTicks), 0, 0, 0);
        }
    }

    private boolean odd() {
        return random.nextInt(25) == 0;
    }

    private int node() {
        return odd() ? random.nextInt(12) - 2 : random.nextInt(mostNodes);
    }

    private void compareOne(int question, String where) {
        if (question == 0) {
            CHECK.due(where + "flying()", net.flying(), model.flying());
        } else if (question == 1 && random.nextBoolean()) {
            CHECK.due(where + "settled()", net.settled(), model.settled());
        } else if (question == 2) {
            compareWays(where);
        } else if (question == 3) {
            comparePacket(where);
        } else {
            compareNews(where);
        }
    }

    private void compareNews(String where) {
        int node = node();
        int origin = node();
        int what = random.nextInt(3) > 0 ? random.nextInt(3) : random.nextInt(22) - 2;
        CHECK.due(where + "news(" + node + ", " + origin + ", " + what + ")",
                net.news(node, origin, what), model.news(node, origin, what));
    }

    private void compareWays(String where) {
        int node = node();
        int to = node();
        if (random.nextBoolean()) {
            CHECK.due(where + "distance(" + node + ", " + to + ")", net.distance(node, to), model.distance(node, to));
        } else {
            CHECK.due(where + "next(" + node + ", " + to + ")", net.next(node, to), model.next(node, to));
        }
    }

    private void comparePacket(String where) {
        int number = random.nextInt(22) - 1;
        int what = random.nextInt(3) > 0 ? random.nextInt(3) : random.nextInt(44) - 2;
        CHECK.due(where + "packet(" + number + ", " + what + ")", net.packet(number, what), model.packet(number, what));
    }
}
