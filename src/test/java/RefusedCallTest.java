import java.util.ArrayList;
import java.util.List;
import java.util.NoSuchElementException;
import java.util.function.Consumer;

/** Every call that is refused, sentence by sentence: what it throws, in the document's order, and that nothing else changes. */
public final class RefusedCallTest {
    private static final int LEAST = Integer.MIN_VALUE;
    private static final int MOST = Integer.MAX_VALUE;
    private static final Class<IllegalStateException> STATE = IllegalStateException.class;
    private static final Class<NoSuchElementException> ELEMENT = NoSuchElementException.class;
    private static final Class<IllegalArgumentException> ARGUMENT = IllegalArgumentException.class;

    /** Two ports, two sensors, two modes, three tasks; a's worst is 3. */
    private static final String TEXT = "port p=4;port q=1;sensor s;sensor u;mode A 6{task a 2 on 0{p=p+s;repeat 1{x=1;}}"
        + "task b 1 on 1{q=p+u;}switch 1 if s>9 to B;slots 3,5;}mode B 4{task c 4 on 2{q=q-1;}}";

    public static void main(String[] args) {
        nothingRuns();
        resetOfNoMode();
        takesOfNoTask();
        takesOfNoTicks();
        sensorOfNone();
        tickOfTooFewOrMany();
        portOfNoNode();
        portOfNoPort();
        denotedOfNoPort();
        stateOfAnother();
        runningOfNoNode();
        nothingElseChanges();
        nothingElseChangesWhereNothingRuns();
        Due.close();
    }

    private static LogicalTimes without() {
        return new LogicalTimes();
    }

    private static LogicalTimes compiledAgain() {
        LogicalTimes x = Due.run(TEXT);
        x.tick(3);
        Due.same("compile", Due.compiled(x, TEXT), 0);
        return x;
    }

    private static LogicalTimes faulty() {
        LogicalTimes x = Due.run(TEXT);
        Due.same("compile", Due.compiled(x, "_"), 1);
        return x;
    }

    private static LogicalTimes refusedReset() {
        LogicalTimes x = Due.program(TEXT);
        Due.refused("reset(2)", ELEMENT, () -> x.reset(2));
        return x;
    }

    private static void nothingRuns() {
        Due.sentence("IllegalStateException: nothing runs (ahead of what else is wrong)");
        LogicalTimes[] objects = {without(), Due.program(TEXT), compiledAgain(), faulty(), refusedReset()};
        for (LogicalTimes x : objects) {
            for (int wrong : new int[] {0, -1, 99, LEAST, MOST}) {
                Due.refused("takes(0, " + wrong + ")", STATE, () -> x.takes(0, wrong));
                Due.refused("takes(" + wrong + ", 0)", STATE, () -> x.takes(wrong, 0));
                Due.refused("sensor(" + wrong + ", 0)", STATE, () -> x.sensor(wrong, 0));
                Due.refused("tick(" + wrong + ")", STATE, () -> x.tick(wrong));
                Due.refused("port(" + wrong + ", 0)", STATE, () -> x.port(wrong, 0));
                Due.refused("port(0, " + wrong + ")", STATE, () -> x.port(0, wrong));
                Due.refused("denoted(" + wrong + ")", STATE, () -> x.denoted(wrong));
                Due.refused("state(" + wrong + ")", STATE, () -> x.state(wrong));
                Due.refused("running(" + wrong + ")", STATE, () -> x.running(wrong));
            }
            Due.refused("tick(1)", STATE, () -> x.tick(1));
            Due.refused("tick(200)", STATE, () -> x.tick(200));
        }
    }

    private static void resetOfNoMode() {
        Due.sentence("reset: NoSuchElementException: there is no such mode");
        LogicalTimes x = Due.program(TEXT);
        LogicalTimes most = Due.program(Texts.most());
        x.reset(1);
        Due.same("the last mode", x.state(0), 1);
        most.reset(3);
        Due.same("the last mode of four", most.state(0), 3);
        for (int m : new int[] {-1, 2, 3, 4, LEAST, MOST}) {
            Due.refused("reset(" + m + ")", ELEMENT, () -> x.reset(m));
        }
        for (int m : new int[] {-1, 4, 5, LEAST, MOST}) {
            Due.refused("reset(" + m + ") of four", ELEMENT, () -> most.reset(m));
        }
        Due.refused("no program", ELEMENT, () -> without().reset(0));
        Due.refused("a fault", ELEMENT, () -> faulty().reset(0));
    }

    private static void takesOfNoTask() {
        Due.sentence("takes: NoSuchElementException: there is no such task (ahead of IllegalArgumentException)");
        LogicalTimes x = Due.run(TEXT);
        LogicalTimes most = Due.run(Texts.most());
        x.takes(2, 1);
        most.takes(23, 2);
        for (int t : new int[] {-1, 3, 24, LEAST, MOST}) {
            for (int n : new int[] {0, 1, -1, 999, LEAST, MOST}) {
                Due.refused("takes(" + t + ", " + n + ")", ELEMENT, () -> x.takes(t, n));
            }
        }
        Due.refused("takes(24, 0) of the most", ELEMENT, () -> most.takes(24, 0));
        Due.refused("no task", ELEMENT, () -> Due.run("mode A 1{}").takes(0, 0));
    }

    private static void takesOfNoTicks() {
        Due.sentence("takes: IllegalArgumentException: n isn't 0 to its worst");
        LogicalTimes x = Due.run(TEXT);
        int[] worst = {3, 1, 1};
        for (int t = 0; t < worst.length; t++) {
            int told = t;
            x.takes(t, 0);
            x.takes(t, worst[t]);
            for (int n : new int[] {-1, worst[t] + 1, 200, LEAST, MOST}) {
                Due.refused("takes(" + t + ", " + n + ")", ARGUMENT, () -> x.takes(told, n));
            }
        }
        LogicalTimes y = Due.run("mode M 1{task a 1 on 0{}task b 1 on 0{repeat 9{repeat 7{x=1;x=2;}}x=1;x=1;}}");
        y.takes(0, 0);
        Due.refused("one tick of a worst of 0", ARGUMENT, () -> y.takes(0, 1));
        y.takes(1, 200);
        Due.refused("201 ticks", ARGUMENT, () -> y.takes(1, 201));
    }

    private static void sensorOfNone() {
        Due.sentence("sensor: NoSuchElementException: there is no such sensor");
        LogicalTimes x = Due.run(TEXT);
        LogicalTimes most = Due.run(Texts.most());
        x.sensor(1, 0);
        most.sensor(3, 0);
        for (int s : new int[] {-1, 2, 3, 4, LEAST, MOST}) {
            Due.refused("sensor(" + s + ", 0)", ELEMENT, () -> x.sensor(s, 0));
        }
        Due.refused("sensor(4, 0) of four", ELEMENT, () -> most.sensor(4, 0));
        Due.refused("sensor(-1, 0) of four", ELEMENT, () -> most.sensor(-1, 0));
        Due.refused("no sensor", ELEMENT, () -> Due.run("mode A 1{}").sensor(0, 0));
    }

    private static void tickOfTooFewOrMany() {
        Due.sentence("tick: IllegalArgumentException: n isn't so (1 to 200)");
        LogicalTimes x = Due.run("mode A 120{}");
        for (int n : new int[] {0, -1, -200, 201, 202, LEAST, MOST}) {
            Due.refused("tick(" + n + ")", ARGUMENT, () -> x.tick(n));
        }
        Due.same("none went by", x.state(1), 0);
        x.tick(1);
        Due.same("one went by", x.state(1), 1);
        x.tick(200);
        Due.same("200 went by", x.state(1), 81);
    }

    private static void portOfNoNode() {
        Due.sentence("port: NoSuchElementException: there is no such node");
        LogicalTimes x = Due.run(TEXT);
        for (int node = 0; node < 4; node++) {
            Due.same("node " + node + ", whether a task is there or not", x.port(node, 0), 4);
        }
        for (int node : new int[] {-1, 4, 5, LEAST, MOST}) {
            for (int p : new int[] {0, 1, 2, -1}) {
                Due.refused("port(" + node + ", " + p + ")", ELEMENT, () -> x.port(node, p));
            }
        }
    }

    private static void portOfNoPort() {
        Due.sentence("port: NoSuchElementException: there is no such .. port");
        LogicalTimes x = Due.run(TEXT);
        LogicalTimes most = Due.run(Texts.most());
        Due.same("the last port", x.port(3, 1), 1);
        Due.same("the last port of twelve", most.port(3, 11), 1);
        for (int p : new int[] {-1, 2, 3, 11, 12, LEAST, MOST}) {
            Due.refused("port(0, " + p + ")", ELEMENT, () -> x.port(0, p));
            Due.refused("port(3, " + p + ")", ELEMENT, () -> x.port(3, p));
        }
        Due.refused("port(0, 12) of twelve", ELEMENT, () -> most.port(0, 12));
        Due.refused("port(0, -1) of twelve", ELEMENT, () -> most.port(0, -1));
        Due.refused("no port", ELEMENT, () -> Due.run("mode A 1{}").port(0, 0));
    }

    private static void denotedOfNoPort() {
        Due.sentence("denoted: IllegalStateException, NoSuchElementException: likewise.");
        LogicalTimes x = Due.run(TEXT);
        LogicalTimes most = Due.run(Texts.most());
        Due.same("the last port", x.denoted(1), 1);
        Due.same("the last port of twelve", most.denoted(11), 1);
        for (int p : new int[] {-1, 2, 3, 11, 12, LEAST, MOST}) {
            Due.refused("denoted(" + p + ")", ELEMENT, () -> x.denoted(p));
        }
        Due.refused("denoted(12) of twelve", ELEMENT, () -> most.denoted(12));
        Due.refused("denoted(-1) of twelve", ELEMENT, () -> most.denoted(-1));
        Due.refused("no port", ELEMENT, () -> Due.run("mode A 1{}").denoted(0));
    }

    private static void stateOfAnother() {
        Due.sentence("state: NoSuchElementException: another what");
        LogicalTimes x = Due.run(TEXT);
        int[] due = {0, 0, 0, 0, -1, 0, 0};
        for (int what = 0; what < due.length; what++) {
            Due.same("state(" + what + ")", x.state(what), due[what]);
        }
        for (int what : new int[] {-1, 7, 8, LEAST, MOST}) {
            Due.refused("state(" + what + ")", ELEMENT, () -> x.state(what));
        }
    }

    private static void runningOfNoNode() {
        Due.sentence("running: NoSuchElementException: there is no such node");
        LogicalTimes x = Due.run(TEXT);
        for (int node = 0; node < 4; node++) {
            Due.same("running(" + node + ")", x.running(node), -1);
        }
        for (int node : new int[] {-1, 4, 5, LEAST, MOST}) {
            Due.refused("running(" + node + ")", ELEMENT, () -> x.running(node));
        }
    }

    /** Calls that are refused in the state that busy() makes; those of the tape answer false. */
    private static List<Consumer<LogicalTimes>> refusedCalls() {
        List<Consumer<LogicalTimes>> calls = new ArrayList<>();
        for (int wrong : new int[] {-1, 21, 3000, LEAST, MOST}) {
            calls.add(x -> Due.holds("end is false", !x.end(wrong)));
        }
        for (int wrong : new int[] {-1, 3, LEAST, MOST}) {
            calls.add(x -> Due.refused("task", ELEMENT, () -> x.task(wrong, 0)));
            calls.add(x -> Due.refused("slack", ELEMENT, () -> x.slack(wrong)));
            calls.add(x -> Due.refused("takes", ELEMENT, () -> x.takes(wrong, 0)));
            calls.add(x -> Due.refused("check", ELEMENT, () -> x.check(wrong)));
            calls.add(x -> Due.refused("reset", ELEMENT, () -> x.reset(wrong)));
            calls.add(x -> Due.refused("slot", ELEMENT, () -> x.slot(wrong, 0)));
            calls.add(x -> Due.refused("slot", ELEMENT, () -> x.slot(0, wrong)));
            calls.add(x -> Due.refused("sensor", ELEMENT, () -> x.sensor(wrong, 77)));
            calls.add(x -> Due.refused("port", ELEMENT, () -> x.port(0, wrong)));
            calls.add(x -> Due.refused("denoted", ELEMENT, () -> x.denoted(wrong)));
        }
        for (int wrong : new int[] {-1, 7, LEAST, MOST}) {
            calls.add(x -> Due.same("count", x.count(wrong), -1));
            calls.add(x -> Due.refused("task", ELEMENT, () -> x.task(0, wrong)));
            calls.add(x -> Due.refused("state", ELEMENT, () -> x.state(wrong)));
            calls.add(x -> Due.refused("running", ELEMENT, () -> x.running(wrong)));
            calls.add(x -> Due.refused("port", ELEMENT, () -> x.port(wrong, 0)));
        }
        for (int wrong : new int[] {-1, 4, 200, LEAST, MOST}) {
            calls.add(x -> Due.refused("takes", ARGUMENT, () -> x.takes(0, wrong)));
        }
        for (int wrong : new int[] {-1, 0, 201, LEAST, MOST}) {
            calls.add(x -> Due.refused("tick", ARGUMENT, () -> x.tick(wrong)));
        }
        return calls;
    }

    /** It runs, a time and a sensor are told, a text waits to be compiled, and the tape has twenty bytes. */
    private static LogicalTimes busy() {
        LogicalTimes x = Due.run(TEXT);
        x.sensor(0, 3);
        x.tick(7);
        x.takes(0, 1);
        x.sensor(1, 5);
        Due.give(x, "mode A 5{}mode B 6{}");
        Due.feed(x, "mode A 5{}mode B 6{}");
        return x;
    }

    /** All that the two objects answer from here on, the text and the tape too. */
    private static void sameFromHereOn(LogicalTimes x, LogicalTimes y) {
        Due.same("the answers", Face.answers(x), Face.answers(y));
        for (int ticks : new int[] {1, 5, 3}) {
            x.tick(ticks);
            y.tick(ticks);
            Due.same("the answers behind " + ticks + " ticks", Face.answers(x), Face.answers(y));
        }
        Due.same("the text", x.compile(), 0);
        Due.same("its modes", x.count(2), 2);
        Due.holds("no more on the tape", !x.end(21));
        Due.holds("the tape", x.end(20));
        Due.same("its text", x.compile(), 0);
    }

    private static void nothingElseChanges() {
        Due.sentence("a call that is refused: nothing else changes");
        List<Consumer<LogicalTimes>> calls = refusedCalls();
        for (Consumer<LogicalTimes> call : calls) {
            LogicalTimes x = busy();
            call.accept(x);
            sameFromHereOn(x, busy());
        }
        LogicalTimes all = busy();
        for (Consumer<LogicalTimes> call : calls) {
            call.accept(all);
        }
        sameFromHereOn(all, busy());
    }

    private static void nothingElseChangesWhereNothingRuns() {
        Due.sentence("a call that is refused since nothing runs: nothing else changes");
        LogicalTimes x = Due.program(TEXT);
        LogicalTimes y = Due.program(TEXT);
        Due.refused("takes", STATE, () -> x.takes(0, 0));
        Due.refused("sensor", STATE, () -> x.sensor(0, 50));
        Due.refused("tick", STATE, () -> x.tick(3));
        Due.same("the answers", Face.answers(x), Face.answers(y));
        x.reset(0);
        y.reset(0);
        for (int ticks : new int[] {1, 5, 8}) {
            x.tick(ticks);
            y.tick(ticks);
            Due.same("the answers behind " + ticks + " ticks", Face.answers(x), Face.answers(y));
        }
    }
}
