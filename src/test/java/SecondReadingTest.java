import java.util.Random;
import java.util.function.IntSupplier;

/** Texts and calls by chance: the class answers as a second reading of the document does. */
public final class SecondReadingTest {
    private static final int MOST_CALLS = 512;
    private static final int[] VALUES = {0, 1, -1, 2, 7, 100, Integer.MAX_VALUE, Integer.MIN_VALUE};

    private static final Random RANDOM = new Random(20261115);
    private static LogicalTimes x;
    private static Reading y;
    private static StringBuilder calls;
    private static int callsMade;
    private static int programs;
    private static int faults;

    public static void main(String[] args) {
        for (int n = 0; n < 1500; n++) {
            x = new LogicalTimes();
            y = new Reading();
            calls = new StringBuilder();
            callsMade = 0;
            for (int texts = 1 + RANDOM.nextInt(2); texts > 0; texts--) {
                compileNext();
                askProgram();
                runSome();
                askRun();
            }
        }
        System.out.println(programs + " programs, " + faults + " faulty texts");
        Due.holds("there are programs enough", programs > 500);
        Due.holds("there are faulty texts enough", faults > 200);
        Due.close();
    }

    /** An object is used for so many calls at most, and no longer than up to its first wrong answer. */
    private static void ask(String call, IntSupplier got, IntSupplier due) {
        if (callsMade < MOST_CALLS) {
            callsMade++;
            calls.append(call).append("; ");
            String answered = answer(got);
            String wanted = answer(due);
            Due.same(calls.toString(), answered, wanted);
            callsMade = answered.equals(wanted) ? callsMade : MOST_CALLS;
        }
    }

    private static String answer(IntSupplier call) {
        try {
            return "" + call.getAsInt();
        } catch (RuntimeException thrown) {
            return thrown.getClass().getSimpleName();
        }
    }

    private static IntSupplier nothing(Runnable call) {
        return () -> {
            call.run();
            return 0;
        };
    }

    private static void compileNext() {
        String text = AnyText.next(RANDOM);
        callsMade += (text.length() + 19) / 20;
        if (callsMade > MOST_CALLS) {
            return;
        }
        calls.append("a text: ").append(text).append("; ");
        Due.feed(x, text);
        for (int i = 0; i < text.length(); i += 20) {
            y.feed(Due.four(text, i), Due.four(text, i + 4), Due.four(text, i + 8), Due.four(text, i + 12),
                Due.four(text, i + 16));
        }
        ask("end", () -> x.end(text.length()) ? 1 : 0, () -> y.end(text.length()) ? 1 : 0);
        ask("compile", x::compile, y::compile);
        programs += y.count(2) > 0 ? 1 : 0;
        faults += y.count(2) > 0 ? 0 : 1;
    }

    private static void askProgram() {
        for (int i = 0; i < 5; i++) {
            int what = i;
            ask("count(" + what + ")", () -> x.count(what), () -> y.count(what));
        }
        for (int i = 0; i < y.count(3); i++) {
            int t = i;
            int what = RANDOM.nextInt(6);
            ask("task(" + t + "," + what + ")", () -> x.task(t, what), () -> y.task(t, what));
            ask("task(" + t + ",3)", () -> x.task(t, 3), () -> y.task(t, 3));
            ask("slack(" + t + ")", () -> x.slack(t), () -> y.slack(t));
        }
        for (int i = 0; i < y.count(2); i++) {
            int m = i;
            ask("check(" + m + ")", () -> x.check(m), () -> y.check(m));
            for (int n = 0; n < 12 && y.count(4) > 0; n++) {
                int message = RANDOM.nextInt(y.count(4));
                ask("slot(" + m + "," + message + ")", () -> x.slot(m, message), () -> y.slot(m, message));
            }
        }
    }

    private static void runSome() {
        reset(RANDOM.nextInt(Math.max(1, y.count(2))));
        for (int n = 10 + RANDOM.nextInt(60); n > 0; n--) {
            int kind = RANDOM.nextInt(20);
            if (kind < 6) {
                int ticks = RANDOM.nextInt(10) > 0 ? 1 + RANDOM.nextInt(13) : RANDOM.nextInt(202);
                ask("tick(" + ticks + ")", nothing(() -> x.tick(ticks)), nothing(() -> y.tick(ticks)));
            } else if (kind < 9) {
                int t = RANDOM.nextInt(1 + y.count(3));
                int ticks = RANDOM.nextInt(6) - (RANDOM.nextInt(20) == 0 ? 1 : 0);
                ask("takes(" + t + "," + ticks + ")", nothing(() -> x.takes(t, ticks)), nothing(() -> y.takes(t, ticks)));
            } else if (kind < 12) {
                int s = RANDOM.nextInt(1 + y.count(1));
                int value = VALUES[RANDOM.nextInt(VALUES.length)];
                ask("sensor(" + s + "," + value + ")", nothing(() -> x.sensor(s, value)), nothing(() -> y.sensor(s, value)));
            } else if (kind == 12 && n % 4 == 0) {
                reset(RANDOM.nextInt(1 + y.count(2)));
            } else {
                askOne();
            }
        }
    }

    private static void reset(int m) {
        ask("reset(" + m + ")", nothing(() -> x.reset(m)), nothing(() -> y.reset(m)));
    }

    private static void askOne() {
        int node = RANDOM.nextInt(4);
        int p = RANDOM.nextInt(1 + y.count(0));
        int what = RANDOM.nextInt(8);
        switch (RANDOM.nextInt(4)) {
            case 0 -> ask("running(" + node + ")", () -> x.running(node), () -> y.running(node));
            case 1 -> ask("port(" + node + "," + p + ")", () -> x.port(node, p), () -> y.port(node, p));
            case 2 -> ask("denoted(" + p + ")", () -> x.denoted(p), () -> y.denoted(p));
            default -> ask("state(" + what + ")", () -> x.state(what), () -> y.state(what));
        }
    }

    private static void askRun() {
        for (int i = 0; i < 7; i++) {
            int what = i;
            ask("state(" + what + ")", () -> x.state(what), () -> y.state(what));
        }
        for (int i = 0; i < 4 * y.count(0); i++) {
            int node = i % 4;
            int p = i / 4;
            ask("port(" + node + "," + p + ")", () -> x.port(node, p), () -> y.port(node, p));
            ask("denoted(" + p + ")", () -> x.denoted(p), () -> y.denoted(p));
        }
    }
}
