import java.util.function.IntSupplier;

/** A call of the face by its name, with as many of the four numbers as it takes. */
record Call(String name, int a, int b, int c, int d) {

    static final String ARGUMENT = "throws IllegalArgumentException";
    static final String STATE = "throws IllegalStateException";

    /** What the call answers: a number, 1 for true and 0 for false, or which exception it throws. */
    String on(FloodingNet net) {
        return answer(() -> switch (name) {
            case "link" -> net.link(a, b, c, d);
            case "fail" -> net.fail(a, b) ? 1 : 0;
            case "restore" -> net.restore(a, b) ? 1 : 0;
            case "start" -> net.start(a) ? 1 : 0;
            case "crash" -> net.crash(a) ? 1 : 0;
            case "tick" -> net.tick(a);
            case "send" -> net.send(a, b, c);
            case "news" -> net.news(a, b, c);
            case "distance" -> net.distance(a, b);
            case "next" -> net.next(a, b);
            case "packet" -> net.packet(a, b);
            default -> throw new AssertionError(name);
        });
    }

    /** The same of the model, for calls that change something. */
    String on(Model model) {
        return answer(() -> switch (name) {
            case "link" -> model.link(a, b, c, d);
            case "fail" -> model.fail(a, b) ? 1 : 0;
            case "restore" -> model.restore(a, b) ? 1 : 0;
            case "start" -> model.start(a) ? 1 : 0;
            case "crash" -> model.crash(a) ? 1 : 0;
            case "tick" -> model.tick(a);
            case "send" -> model.send(a, b, c);
            default -> throw new AssertionError(name);
        });
    }

    private static String answer(IntSupplier call) {
        try {
            return String.valueOf(call.getAsInt());
        } catch (IllegalArgumentException e) {
            return ARGUMENT;
        } catch (IllegalStateException e) {
            return STATE;
        }
    }

    @Override
    public String toString() {
        return name + "(" + a + ", " + b + ", " + c + ", " + d + ")";
    }
}
