import java.util.Random;

/** Long runs of calls, the same every time, on the program and on the model: all answers must be the same. */
public final class ModelTest {

    private static final Check CHECK = new Check("ModelTest");
    private static final int RUNS = 240;
    private static final int CALLS = 200;

    private final Random random;
    private final FloodingNet net = new FloodingNet();
    private final Model model = new Model();
    private final int run;
    private final int mostDelay;
    private final int mostTicks;
    private final int mostNodes;

    private ModelTest(int run) {
        this.run = run;
        random = new Random(run);
        mostDelay = run % 3 == 0 ? 1 : run % 3 == 1 ? 4 : 8;
        mostTicks = run % 4 == 0 ? 50 : run % 4 == 1 ? 12 : 3;
        mostNodes = run % 5 == 0 ? 3 : run % 5 == 1 ? 5 : 8;
    }

    public static void main(String[] args) {
        for (int run = 0; run < RUNS; run++) {
            new ModelTest(run).compareRun();
        }
        CHECK.end();
    }

    private void compareRun() {
        for (int i = 0; i < CALLS; i++) {
            String call = oneCall(i);
            String where = "run " + run + ", call " + i + ", after " + call + ": ";
            compareNews(where);
            comparePackets(where);
            if (i % 4 == 0) {
                compareWays(where);
            }
        }
    }

    private String oneCall(int i) {
        int u = node();
        int v = node();
        switch (i < 12 ? i % 2 : random.nextInt(14)) {
            case 0:
                return act("start", u, 0, 0, 0);
            case 1:
                return act("link", u, v, odd() ? random.nextInt(60) - 5 : 1 + random.nextInt(6),
                        odd() ? random.nextInt(12) - 1 : 1 + random.nextInt(mostDelay));
            case 2:
                return act("fail", u, v, 0, 0);
            case 3:
            case 4:
                return act("restore", u, v, 0, 0);
            case 5:
                return act("crash", u, 0, 0, 0);
            case 6:
                return act("start", u, 0, 0, 0);
            case 7:
            case 8:
                return act("send", u, v, odd() ? random.nextInt(40) - 4 : random.nextInt(12), 0);
            default:
                return act("tick", odd() ? random.nextInt(60) - 4 : 1 + random.nextInt(mostTicks), 0, 0, 0);
        }
    }

    private boolean odd() {
        return random.nextInt(25) == 0;
    }

    private int node() {
        return odd() ? random.nextInt(12) - 2 : random.nextInt(mostNodes);
    }

    /** Makes the call on both, and compares the answers; what throws counts as an answer of its own. */
    private String act(String call, int a, int b, int c, int d) {
        String text = call + "(" + a + ", " + b + ", " + c + ", " + d + ")";
        long want;
        try {
            want = onModel(call, a, b, c, d);
        } catch (IllegalArgumentException e) {
            want = -1001;
        } catch (IllegalStateException e) {
            want = -1002;
        }
        long got;
        try {
            got = onNet(call, a, b, c, d);
        } catch (IllegalArgumentException e) {
            got = -1001;
        } catch (IllegalStateException e) {
            got = -1002;
        }
        CHECK.due("run " + run + ": " + text, got, want);
        return text;
    }

    private long onModel(String call, int a, int b, int c, int d) {
        return switch (call) {
            case "link" -> model.link(a, b, c, d);
            case "fail" -> model.fail(a, b) ? 1 : 0;
            case "restore" -> model.restore(a, b) ? 1 : 0;
            case "start" -> model.start(a) ? 1 : 0;
            case "crash" -> model.crash(a) ? 1 : 0;
            case "send" -> model.send(a, b, c);
            default -> model.tick(a);
        };
    }

    private long onNet(String call, int a, int b, int c, int d) {
        return switch (call) {
            case "link" -> net.link(a, b, c, d);
            case "fail" -> net.fail(a, b) ? 1 : 0;
            case "restore" -> net.restore(a, b) ? 1 : 0;
            case "start" -> net.start(a) ? 1 : 0;
            case "crash" -> net.crash(a) ? 1 : 0;
            case "send" -> net.send(a, b, c);
            default -> net.tick(a);
        };
    }

    private void compareNews(String where) {
        for (int node = -1; node <= 8; node++) {
            for (int origin = -1; origin <= 8; origin++) {
                for (int what = -1; what <= 18; what++) {
                    if (net.news(node, origin, what) != model.news(node, origin, what)) {
                        CHECK.due(where + "news(" + node + ", " + origin + ", " + what + ")",
                                net.news(node, origin, what), model.news(node, origin, what));
                    }
                }
            }
        }
        CHECK.due(where + "flying()", net.flying(), model.flying());
        CHECK.due(where + "settled()", net.settled(), model.settled());
    }

    private void comparePackets(String where) {
        for (int number = -1; number <= 20; number++) {
            for (int what = -1; what <= 42; what++) {
                if (net.packet(number, what) != model.packet(number, what)) {
                    CHECK.due(where + "packet(" + number + ", " + what + ")",
                            net.packet(number, what), model.packet(number, what));
                }
            }
        }
    }

    private void compareWays(String where) {
        for (int node = -1; node <= 8; node++) {
            for (int to = -1; to <= 8; to++) {
                CHECK.due(where + "distance(" + node + ", " + to + ")", net.distance(node, to), model.distance(node, to));
                CHECK.due(where + "next(" + node + ", " + to + ")", net.next(node, to), model.next(node, to));
            }
        }
    }
}
