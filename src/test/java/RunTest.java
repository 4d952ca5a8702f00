/** Promises 10 to 17, as they are used rightly: reset, takes, sensor, tick, port, denoted, state and running. */
public final class RunTest {
    private static final int MODE = 0;
    private static final int TICK = 1;
    private static final int SWITCHES = 2;
    private static final int FAULTS = 3;
    private static final int LATEST_FAULT = 4;
    private static final int SENT = 5;
    private static final int DONE = 6;

    public static void main(String[] args) {
        values();
        statements();
        readsWhenTheSpanBegins();
        seenWhenTheSpanEnds();
        sensors();
        switches();
        switchesSeeWhatIsDenoted();
        periods();
        times();
        timesAreKept();
        faults();
        messages();
        unsentIsUnseen();
        sentForOneSpanAlone();
        seenDiffersFromDenoted();
        running();
        resets();
        longTicks();
        Due.close();
    }

    private static void value(String e, int a, int b, int due) {
        LogicalTimes x = Due.run("port p=77;sensor a;sensor b;mode M 1{task t 1 on 0{p=" + e + ";}}");
        x.sensor(0, a);
        x.sensor(1, b);
        x.tick(2);
        Due.same(e + " by " + a + ", " + b + " denoted", x.denoted(0), due);
        Due.same(e + " by " + a + ", " + b + " seen", x.port(0, 0), due);
    }

    private static void values() {
        int least = Integer.MIN_VALUE;
        int most = Integer.MAX_VALUE;
        value("2+3*4", 0, 0, 14);
        value("(2+3)*4", 0, 0, 20);
        value("10-3-2", 0, 0, 5);
        value("100/10/5", 0, 0, 2);
        value("7%4*2", 0, 0, 6);
        value("2*7%4", 0, 0, 2);
        value("a/b", -7, 2, -3);
        value("a%b", -7, 2, -1);
        value("a%b", 7, -2, 1);
        value("a/b", 5, 0, 0);
        value("a%b", 5, 0, 0);
        value("a/b", least, -1, least);
        value("a%b", least, -1, 0);
        value("-a", least, 0, least);
        value("a+b", most, 1, least);
        value("a-b", least, 1, most);
        value("a*b", 65536, 65536, 0);
        value("999999*999999", 0, 0, (int) (999999L * 999999L));
        value("--a", 5, 0, 5);
        value("2--3", 0, 0, 5);
        value("-a*b", 2, 3, -6);
        value("-(a<b)", 1, 2, -1);
        value("a<b", 1, 2, 1);
        value("a<b", 2, 2, 0);
        value("a>b", 3, 2, 1);
        value("a>b", 2, 2, 0);
        value("a+1<b*2", 2, 2, 1);
        value("(a>b)+(b>a)*10", 1, 2, 10);
        value("a<b", least, most, 1);
        value("1<1+1*(".repeat(7) + "a" + ")".repeat(7), 1, 0, 1);
        value("1+1*(".repeat(8) + "a" + ")".repeat(8), 1, 0, 9);
        value("(".repeat(8) + "a-1" + ")".repeat(8), 1, 0, 0);
    }

    private static void result(String statements, int s, int due) {
        LogicalTimes x = Due.run("port p=7;sensor s;mode M 50{task t 1 on 0{" + statements + "}}");
        x.sensor(0, s);
        x.tick(51);
        Due.same(statements + " by " + s, x.denoted(0), due);
    }

    private static void statements() {
        result("p=1;p=2;", 0, 2);
        result("p=p+1;p=p+1;", 0, 8);
        result("if s{p=1;}", 1, 1);
        result("if s{p=1;}", -3, 1);
        result("if s{p=1;}", 0, 7);
        result("if s{p=1;}else{p=2;}", 0, 2);
        result("if s{p=1;}else{p=2;}", 1, 1);
        result("if s{p=1;}else{p=2;}p=p+1;", 1, 8);
        result("x=0;repeat 4{x=x*10+1;}p=x;", 0, 1111);
        result("x=0;repeat 3{x=x+1;repeat 2{x=x*2;}if x>5{x=x-1;}}p=x;", 0, 79);
        result("x=0;repeat 3{repeat 2{if s{x=x+1;}else{x=x+10;}}}p=x;", 1, 6);
        result("repeat 9{}", 0, 7);
        result("", 0, 7);
        LogicalTimes x = Due.run("port p=7;sensor s;mode M 4{task t 1 on 0{if s{x=3;}p=x;}}");
        x.sensor(0, 1);
        x.tick(4);
        x.sensor(0, 0);
        x.tick(1);
        Due.same("a local is set", x.denoted(0), 3);
        x.tick(4);
        Due.same("each run's locals begin with 0", x.denoted(0), 0);
    }

    private static void readsWhenTheSpanBegins() {
        LogicalTimes x = Due.run("port p=1;sensor s;mode M 6{task t 1 on 0{if s{}p=s+p;}}");
        x.sensor(0, 10);
        x.tick(1);
        x.sensor(0, 20);
        x.tick(6);
        Due.same("the sensor as it was at first", x.denoted(0), 11);
        x.tick(6);
        Due.same("then as it was at the second span", x.denoted(0), 31);
        // Two tasks that swap: each reads what was there ahead of both.
        LogicalTimes y = Due.run("port p=1;port q=2;mode M 3{task t 1 on 0{p=q;}task u 1 on 0{q=p;}}");
        y.tick(4);
        Due.same("p", y.denoted(0), 2);
        Due.same("q", y.denoted(1), 1);
    }

    private static void seenWhenTheSpanEnds() {
        LogicalTimes x = Due.run("port p=1;mode M 6{task t 2 on 1{p=p+1;}}");
        int[] due = {1, 1, 1, 2, 2, 2, 3, 3, 3, 4};
        Due.same("before any tick, denoted", x.denoted(0), 1);
        Due.same("before any tick, seen", x.port(1, 0), 1);
        for (int i = 0; i < due.length; i++) {
            x.tick(1);
            Due.same("denoted in tick " + i, x.denoted(0), due[i]);
            Due.same("seen on its node in tick " + i, x.port(1, 0), due[i]);
            Due.same("seen on another in tick " + i, x.port(0, 0), 1);
        }
    }

    private static void sensors() {
        LogicalTimes x = Due.run("port p=0;sensor s;sensor u;mode M 1{task t 1 on 0{p=s*10+u;}}");
        x.sensor(0, 1);
        x.tick(1);
        x.sensor(1, 5);
        x.tick(1);
        Due.same("the first tick's", x.denoted(0), 10);
        x.tick(1);
        Due.same("the second tick's", x.denoted(0), 15);
        x.sensor(0, 7);
        x.sensor(0, -1);
        x.tick(2);
        Due.same("the later one", x.denoted(0), -5);
    }

    private static void states(LogicalTimes x, String when, int mode, int tick, int switches) {
        Due.same(when + ": mode", x.state(MODE), mode);
        Due.same(when + ": tick", x.state(TICK), tick);
        Due.same(when + ": switches", x.state(SWITCHES), switches);
    }

    private static void switches() {
        LogicalTimes x = Due.run("sensor s;mode A 6{switch 2 if s to B;switch 3 if s to C;switch 6 if s>5 to D;}"
            + "mode B 4{switch 1 if 1 to A;}mode C 2{}mode D 1{switch 1 if 0-s to D;}");
        states(x, "reset", 0, 0, 0);
        x.sensor(0, 1);
        x.tick(1);
        states(x, "not at tick 0", 0, 1, 0);
        x.tick(1);
        states(x, "1 is no multiple of 2 or 3", 0, 2, 0);
        x.tick(1);
        states(x, "2 is one of 2: the second switch", 2, 1, 1);
        x.reset(0);
        x.tick(3);
        x.sensor(0, 1);
        x.tick(1);
        states(x, "3 is one of 3: the first switch", 1, 1, 1);
        x.tick(3);
        states(x, "all of B has gone by", 1, 4, 1);
        x.tick(1);
        states(x, "B is left at its period", 0, 1, 2);
        x.sensor(0, 6);
        x.tick(1);
        states(x, "D begins", 3, 1, 3);
        x.tick(3);
        states(x, "a switch to the same mode counts", 3, 1, 6);
        x.sensor(0, 0);
        x.tick(2);
        states(x, "beginning again counts not", 3, 1, 6);
        LogicalTimes y = Due.run("sensor s;mode A 6{switch 1 if s to B;switch 1 if s to A;}mode B 1{}");
        y.tick(6);
        y.sensor(0, -1);
        y.tick(1);
        states(y, "the first of two, by a sensor told at the end", 1, 1, 1);
    }

    private static void switchesSeeWhatIsDenoted() {
        // p changes at 4, when the run is dropped: the node sees nothing, but the switch goes by what is denoted.
        LogicalTimes x = Due.run("port p=0;mode A 4{task t 1 on 0{p=1;repeat 9{}}switch 1 if p to B;}mode B 9{}");
        x.tick(5);
        states(x, "behind the dropped run", 1, 1, 1);
        Due.same("denoted", x.denoted(0), 1);
        Due.same("seen", x.port(0, 0), 0);
        // What ends in a tick is seen by the switch of that tick, and by what begins in it.
        LogicalTimes y = Due.run("port p=0;port q=0;mode A 4{task t 2 on 0{p=p+1;}switch 2 if p>1 to B;}"
            + "mode B 1{task u 1 on 0{q=p;}}");
        y.tick(4);
        states(y, "not at 2", 0, 4, 0);
        y.tick(1);
        states(y, "at 4", 1, 1, 1);
        y.tick(1);
        Due.same("the new mode's task", y.denoted(1), 2);
        // A mode that is entered begins all of its spans anew, also the mode that was left.
        LogicalTimes z = Due.run("port p=0;sensor s;mode A 6{task t 3 on 0{p=p+1;}switch 3 if s to A;}");
        z.sensor(0, 1);
        z.tick(7);
        Due.same("three spans, three switches", z.denoted(0), 3);
        states(z, "in the mode again", 0, 1, 3);
    }

    private static void periods() {
        LogicalTimes x = Due.run("mode A 3{}");
        int[] due = {1, 2, 3, 1, 2, 3, 1};
        for (int i = 0; i < due.length; i++) {
            x.tick(1);
            states(x, "period " + i, 0, due[i], 0);
        }
    }

    private static void times() {
        LogicalTimes x = Due.run("mode M 10{task a 1 on 0{repeat 5{}}task b 1 on 0{x=1;}task c 1 on 1{}}");
        x.takes(0, 2);
        x.tick(1);
        Due.same("c is done when it begins", x.state(DONE), 1);
        x.tick(1);
        Due.same("a takes two", x.state(DONE), 2);
        x.tick(1);
        Due.same("then b", x.state(DONE), 3);
        Due.same("ran", x.running(0), 1);
        x.takes(0, 0);
        x.takes(1, 0);
        x.tick(7);
        Due.same("nothing begins", x.state(DONE), 3);
        x.tick(1);
        Due.same("three are done at once", x.state(DONE), 6);
        Due.same("none ran", x.running(0), -1);
        x.tick(13);
        Due.same("then each takes its worst", x.state(DONE), 7);
        x.tick(1);
        Due.same("a's fifth tick", x.state(DONE), 8);
        x.tick(1);
        Due.same("b's", x.state(DONE), 9);
    }

    private static void timesAreKept() {
        LogicalTimes x = Due.run("sensor s;mode A 2{switch 1 if s to B;}mode B 8{task b 2 on 0{repeat 4{}}}");
        x.takes(0, 1);
        x.takes(0, 2);
        x.tick(4);
        x.sensor(0, 1);
        x.tick(2);
        Due.same("the later telling, kept until the run begins", x.state(DONE), 1);
        Due.same("ran", x.running(0), 0);
        x.tick(1);
        Due.same("it is done", x.running(0), -1);
        x.tick(5);
        Due.same("for one run alone", x.state(DONE), 2);
        Due.same("ran again", x.running(0), 0);
        x.takes(0, 0);
        x.reset(1);
        x.tick(3);
        Due.same("reset: nothing is told", x.state(DONE), 0);
        x.takes(0, 4);
        x.tick(1);
        Due.same("a run that goes on is as it was", x.state(DONE), 1);
    }

    private static void faults() {
        LogicalTimes x = Due.run("port p=0;port q=0;mode M 4{task a 1 on 0{p=p+1;repeat 4{}}task b 2 on 1{q=q+1;repeat 2{}}"
            + "task c 1 on 2{}}");
        Due.same("none at first", x.state(LATEST_FAULT), -1);
        x.tick(2);
        Due.same("a span that ends at hand", x.state(FAULTS), 0);
        x.tick(1);
        Due.same("b", x.state(FAULTS), 1);
        Due.same("the latest", x.state(LATEST_FAULT), 1);
        x.takes(1, 2);
        x.tick(2);
        Due.same("a and b at once", x.state(FAULTS), 3);
        Due.same("the later task", x.state(LATEST_FAULT), 1);
        Due.same("p is denoted", x.denoted(0), 1);
        Due.same("but not seen", x.port(0, 0), 0);
        Due.same("q is denoted", x.denoted(1), 2);
        x.tick(2);
        Due.same("b was in time", x.state(FAULTS), 3);
        Due.same("it goes on from what it saw", x.port(1, 1), 1);
        Due.same("the language from what it says", x.denoted(1), 3);
        x.takes(1, 1);
        x.tick(2);
        Due.same("both again", x.state(FAULTS), 5);
        x.takes(0, 0);
        x.takes(1, 0);
        x.tick(4);
        Due.same("a alone, whose run began ahead of the telling", x.state(FAULTS), 6);
        Due.same("a is the latest", x.state(LATEST_FAULT), 0);
        x.takes(1, 1);
        x.tick(2);
        Due.same("b alone", x.state(FAULTS), 7);
        Due.same("b is the latest", x.state(LATEST_FAULT), 1);
        x.tick(2);
        Due.same("both in time", x.state(FAULTS), 7);
        Due.same("a is seen at last", x.port(0, 0), 1);
    }

    private static void messages() {
        // Done: a at 1 (ends 6) and 7 (ends 12); b at 2, 6 and 10. Slots: b0 2, a0 5, b1 6, a1 9, b2 11.
        LogicalTimes x = Due.run("port p=1;port q=0;sensor s;mode M 12{task a 2 on 0{p=q+s;}"
            + "task b 3 on 1{x=p*2;q=x-1;}slots 2,5,6,9,11;}");
        x.sensor(0, 5);
        int[] sent = {0, 0, 1, 1, 1, 2, 3, 3, 3, 4, 4, 5, 5};
        int[] done = {1, 2, 2, 2, 2, 3, 4, 4, 4, 5, 5, 5, 6};
        int[] p = {1, 1, 1, 1, 1, 1, 5, 5, 5, 5, 5, 5, 6};
        int[] q = {0, 0, 0, 0, 1, 1, 1, 1, 1, 1, 1, 1, 9};
        for (int i = 0; i < sent.length; i++) {
            x.tick(1);
            Due.same("sent by tick " + i, x.state(SENT), sent[i]);
            Due.same("done by tick " + i, x.state(DONE), done[i]);
            for (int node = 0; node < 4; node++) {
                Due.same("p on " + node + " in tick " + i, x.port(node, 0), p[i]);
                Due.same("q on " + node + " in tick " + i, x.port(node, 1), q[i]);
            }
            Due.same("p denoted in tick " + i, x.denoted(0), p[i]);
            Due.same("q denoted in tick " + i, x.denoted(1), q[i]);
        }
    }

    private static void unsentIsUnseen() {
        // One slot, two ports: q's message has none. A task misses in N: its messages have none at all.
        LogicalTimes x = Due.run("port p=0;port q=0;sensor s;mode M 4{task a 1 on 0{p=5;q=6;}task b 1 on 1{x=p+q;}"
            + "switch 1 if s to N;slots 2;}mode N 4{task c 1 on 0{p=8;}task d 1 on 1{repeat 5{}}slots 2,3;}");
        x.tick(5);
        Due.same("p is sent", x.port(1, 0), 5);
        Due.same("also where none reads it", x.port(3, 0), 5);
        Due.same("q is not", x.port(1, 1), 0);
        Due.same("q on its own node", x.port(0, 1), 6);
        Due.same("one message", x.state(SENT), 1);
        x.sensor(0, 1);
        x.tick(8);
        Due.same("in N none", x.state(SENT), 2);
        Due.same("p on its own node", x.port(0, 0), 8);
        Due.same("p elsewhere", x.port(1, 0), 5);
    }

    private static void sentForOneSpanAlone() {
        LogicalTimes x = Due.run("port p=0;mode M 4{task a 2 on 0{p=p+1;}task b 1 on 1{x=p;}slots 1;}");
        int[] due = {0, 0, 1, 1, 1, 1, 3};
        for (int i = 0; i < due.length; i++) {
            x.tick(1);
            Due.same("p elsewhere in tick " + i, x.port(1, 0), due[i]);
        }
        Due.same("two messages", x.state(SENT), 2);
        x.reset(0);
        Due.same("reset: none", x.state(SENT), 0);
    }

    private static void seenDiffersFromDenoted() {
        // b sees p never change, so it sends what it makes of the first p.
        LogicalTimes y = Due.run("port p=1;port q=0;mode M 4{task b 1 on 1{q=p*10;}task a 1 on 0{p=p+1;}"
            + "task c 1 on 2{x=q;}slots 1;}");
        Due.same("a's message has no slot", y.check(0), 1002);
        y.tick(9);
        Due.same("p denoted", y.denoted(0), 3);
        Due.same("p on a's node", y.port(0, 0), 3);
        Due.same("p on b's node", y.port(1, 0), 1);
        Due.same("q denoted", y.denoted(1), 20);
        Due.same("q on b's node", y.port(1, 1), 10);
        Due.same("q on c's node", y.port(2, 1), 10);
        // A run that assigns nothing gives what its node saw when the span began: a message carries that.
        LogicalTimes z = Due.run("port p=1;sensor s;mode A 2{task a 1 on 0{p=2;}switch 1 if 1 to B;}"
            + "mode B 4{task b 1 on 1{if s{p=9;}}slots 2;}");
        z.tick(3);
        Due.same("node 0 sees a's", z.port(0, 0), 2);
        Due.same("node 1 doesn't", z.port(1, 0), 1);
        z.tick(4);
        Due.same("b's message makes it what node 1 saw", z.port(0, 0), 1);
        Due.same("it stays denoted", z.denoted(0), 2);
    }

    private static void running() {
        // a (span 12, 5 ticks), b (span 4, 2 ticks): b 0 1, a 2 3, b 4 5, a 6 7, a 8 (first of the two that end at 12), b 9 10.
        LogicalTimes x = Due.run("mode A 12{task a 1 on 0{repeat 5{}}task b 3 on 0{repeat 2{}}task c 2 on 3{x=1;}}");
        int[] zero = {1, 1, 0, 0, 1, 1, 0, 0, 0, 1, 1, -1, 1};
        int[] three = {2, -1, -1, -1, -1, -1, 2, -1, -1, -1, -1, -1, 2};
        for (int node = 0; node < 4; node++) {
            Due.same("before any tick on " + node, x.running(node), -1);
        }
        for (int i = 0; i < zero.length; i++) {
            x.tick(1);
            Due.same("node 0 in tick " + i, x.running(0), zero[i]);
            Due.same("node 1 in tick " + i, x.running(1), -1);
            Due.same("node 3 in tick " + i, x.running(3), three[i]);
        }
        // Runs that are shorter make room: what runs goes by what is left, not by what was checked.
        x.reset(0);
        x.takes(1, 0);
        x.tick(1);
        Due.same("b is done at once, so a runs", x.running(0), 0);
    }

    private static void resets() {
        LogicalTimes x = Due.run("port p=4;sensor s;mode A 2{task a 2 on 0{p=p+1+s;repeat 2{}}switch 1 if 1 to B;}"
            + "mode B 3{task b 1 on 1{p=p;}}");
        x.sensor(0, 3);
        x.tick(10);
        x.reset(1);
        int[] due = {1, 0, 0, 0, -1, 0, 0};
        for (int what = 0; what < due.length; what++) {
            Due.same("reset: state(" + what + ")", x.state(what), due[what]);
        }
        Due.same("reset: denoted", x.denoted(0), 4);
        for (int node = 0; node < 4; node++) {
            Due.same("reset: port on " + node, x.port(node, 0), 4);
            Due.same("reset: running on " + node, x.running(node), -1);
        }
        x.reset(0);
        x.tick(3);
        Due.same("reset: the sensor is 0", x.denoted(0), 6);
    }

    private static void longTicks() {
        LogicalTimes x = Due.run("port p=0;mode M 120{task a 120 on 0{p=p+1;}}");
        x.tick(200);
        Due.same("200 ticks, denoted", x.denoted(0), 199);
        Due.same("200 ticks, seen", x.port(0, 0), 199);
        Due.same("200 ticks, at hand", x.state(TICK), 80);
        Due.same("200 ticks, done", x.state(DONE), 200);
    }
}
