import java.util.NoSuchElementException;

/** Promises 10 to 17, as they are used wrongly: what is thrown, in the document's order, and that nothing changes. */
public final class WrongCallTest {
    private static final int LEAST = Integer.MIN_VALUE;
    private static final int MOST = Integer.MAX_VALUE;

    public static void main(String[] args) {
        nothingRuns(new LogicalTimes());
        nothingRuns(Due.program("port p=1;sensor s;mode A 5{task t 1 on 0{p=1;}}"));
        noSuchElements();
        noSuchArguments();
        wrongCallsChangeNothing();
        Due.close();
    }

    private static void nothingRuns(LogicalTimes x) {
        Class<IllegalStateException> due = IllegalStateException.class;
        Due.refused("takes(0, 0)", due, () -> x.takes(0, 0));
        Due.refused("takes(99, 0)", due, () -> x.takes(99, 0));
        Due.refused("takes(0, -1)", due, () -> x.takes(0, -1));
        Due.refused("sensor(0, 0)", due, () -> x.sensor(0, 0));
        Due.refused("sensor(9, 0)", due, () -> x.sensor(9, 0));
        Due.refused("tick(1)", due, () -> x.tick(1));
        Due.refused("tick(0)", due, () -> x.tick(0));
        Due.refused("port(0, 0)", due, () -> x.port(0, 0));
        Due.refused("port(9, 9)", due, () -> x.port(9, 9));
        Due.refused("denoted(0)", due, () -> x.denoted(0));
        Due.refused("denoted(9)", due, () -> x.denoted(9));
        Due.refused("state(0)", due, () -> x.state(0));
        Due.refused("state(9)", due, () -> x.state(9));
        Due.refused("running(0)", due, () -> x.running(0));
        Due.refused("running(9)", due, () -> x.running(9));
    }

    private static void noSuchElements() {
        LogicalTimes x = Due.run("port p=1;sensor s;mode A 5{task t 1 on 0{p=1;}}");
        Class<NoSuchElementException> due = NoSuchElementException.class;
        for (int wrong : new int[] {-1, 1, LEAST, MOST}) {
            Due.refused("reset(" + wrong + ")", due, () -> x.reset(wrong));
            Due.refused("takes(" + wrong + ", 0)", due, () -> x.takes(wrong, 0));
            Due.refused("takes(" + wrong + ", -1)", due, () -> x.takes(wrong, -1));
            Due.refused("sensor(" + wrong + ", 0)", due, () -> x.sensor(wrong, 0));
            Due.refused("port(0, " + wrong + ")", due, () -> x.port(0, wrong));
            Due.refused("denoted(" + wrong + ")", due, () -> x.denoted(wrong));
        }
        for (int wrong : new int[] {-1, 4, LEAST, MOST}) {
            Due.refused("port(" + wrong + ", 0)", due, () -> x.port(wrong, 0));
            Due.refused("running(" + wrong + ")", due, () -> x.running(wrong));
        }
        for (int wrong : new int[] {-1, 7, LEAST, MOST}) {
            Due.refused("state(" + wrong + ")", due, () -> x.state(wrong));
        }
        LogicalTimes bare = Due.run("mode A 5{}");
        Due.refused("no port", due, () -> bare.port(0, 0));
        Due.refused("nothing denoted", due, () -> bare.denoted(0));
        Due.refused("no sensor", due, () -> bare.sensor(0, 0));
        Due.refused("no task", due, () -> bare.takes(0, 0));
    }

    private static void noSuchArguments() {
        LogicalTimes x = Due.run("port p=1;sensor s;mode A 5{task t 1 on 0{p=1;p=2;}}");
        Class<IllegalArgumentException> due = IllegalArgumentException.class;
        for (int wrong : new int[] {-1, 3, LEAST, MOST}) {
            Due.refused("takes(0, " + wrong + ")", due, () -> x.takes(0, wrong));
        }
        for (int wrong : new int[] {-1, 0, 201, LEAST, MOST}) {
            Due.refused("tick(" + wrong + ")", due, () -> x.tick(wrong));
        }
        x.takes(0, 0);
        x.takes(0, 2);
        x.tick(1);
        x.tick(200);
        Due.same("200 and 1 went by", x.state(1), 1);
    }

    private static void wrongCallsChangeNothing() {
        LogicalTimes x = Due.run("port p=1;sensor s;mode A 5{task t 1 on 0{p=s;p=s;}}");
        x.sensor(0, 3);
        x.takes(0, 1);
        Due.refused("takes(0, 3)", IllegalArgumentException.class, () -> x.takes(0, 3));
        Due.refused("sensor(1, 9)", NoSuchElementException.class, () -> x.sensor(1, 9));
        x.tick(1);
        Due.same("the told time stays", x.state(6), 1);
        Due.refused("reset(1)", NoSuchElementException.class, () -> x.reset(1));
        Due.refused("tick(201)", IllegalArgumentException.class, () -> x.tick(201));
        Due.same("the run goes on", x.state(1), 1);
        x.feed(0, 0, 0, 0, 0);
        x.end(5);
        x.tick(5);
        Due.same("a new text alone stops nothing", x.denoted(0), 3);
    }
}
