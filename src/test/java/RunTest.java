/** Promises 10 to 17 as they are used rightly, sentence by sentence, with what running is. */
public final class RunTest {
    private static final int MODE = 0;
    private static final int TICK = 1;
    private static final int SWITCHES = 2;
    private static final int FAULTS = 3;
    private static final int LATEST_FAULT = 4;
    private static final int SENT = 5;
    private static final int DONE = 6;
    private static final int LEAST = Integer.MIN_VALUE;
    private static final int MOST = Integer.MAX_VALUE;

    public static void main(String[] args) {
        endsComeFirst();
        notAtTick0();
        theFirstSwitch();
        multiplesOfItsPart();
        unlessItsEIs0();
        byWhatIsDenoted();
        modeBeginsWithTick0();
        beginsAgain();
        beginsComeLast();
        seenOnItsNode();
        seenOnOthers();
        computesWithWhatItsNodeSees();
        messagesInTheirSlots();
        messagesOfAMissingMode();
        takesItsWorst();
        runsTheTaskThatCheckingTells();
        droppedIsAFault();
        resetBegins();
        resetFirstValues();
        resetSensors();
        resetTimes();
        resetToEachMode();
        takesFrom0ToWorst();
        takesTheNextRun();
        takesOnce();
        sensorsHaveAnyValue();
        sensorsFromTheTickAtHand();
        ticksFrom1To200();
        portBeforeAny();
        portInTheLatestTick();
        denotedInTheLatestTick();
        stateOfTheTick();
        stateOfSwitches();
        stateOfFaults();
        stateOfMessages();
        stateOfRuns();
        runningTasks();
        runningNone();
        lastOf512Calls();
        Due.close();
    }

    private static void states(LogicalTimes x, String when, int mode, int tick, int switches) {
        Due.same(when + ": mode", x.state(MODE), mode);
        Due.same(when + ": tick", x.state(TICK), tick);
        Due.same(when + ": switches", x.state(SWITCHES), switches);
    }

    private static void endsComeFirst() {
        Due.sentence("in this order: what ends (spans of all tasks, in order); then .. switch");
        // What ends in a tick is seen by the switch of that tick.
        LogicalTimes y = Due.run("port p=0;mode A 4{task t 2 on 0{p=p+1;}switch 2 if p>1 to B;}mode B 1{}");
        y.tick(4);
        states(y, "not at 2", 0, 4, 0);
        y.tick(1);
        states(y, "at 4", 1, 1, 1);
        // Both spans end at once: the later task's fault is the latest.
        LogicalTimes z = Due.run("mode A 2{task a 1 on 1{repeat 3{}}task b 1 on 0{repeat 3{}}}");
        z.tick(3);
        Due.same("two faults", z.state(FAULTS), 2);
        Due.same("the later task", z.state(LATEST_FAULT), 1);
    }

    private static void notAtTick0() {
        Due.sentence("then, but at a mode's tick 0, the first switch");
        LogicalTimes x = Due.run("sensor s;mode A 4{switch 4 if 1-s to B;}mode B 3{switch 3 if 1-s to A;}");
        x.tick(1);
        states(x, "not at the first tick 0", 0, 1, 0);
        x.tick(1);
        states(x, "at tick 1, and not on in the same tick", 1, 1, 1);
        x.tick(1);
        states(x, "at tick 1 of B", 0, 1, 2);
        x.sensor(0, 1);
        x.tick(3);
        states(x, "the period has gone by", 0, 4, 2);
        x.tick(1);
        states(x, "no switch at the period's tick", 0, 1, 2);
        // A period of one tick: its switch is tried once in each tick, at tick 1 that was.
        LogicalTimes y = Due.run("mode A 1{switch 1 if 1 to A;}");
        y.tick(1);
        states(y, "tick 0", 0, 1, 0);
        y.tick(5);
        states(y, "five ticks later", 0, 1, 5);
    }

    private static void theFirstSwitch() {
        Due.sentence("the first switch");
        LogicalTimes x = Due.run("sensor s;mode A 6{switch 6 if s>9 to D;switch 6 if s>5 to C;switch 6 if s>1 to B;switch 6 if s to A;}"
            + "mode B 1{}mode C 1{}mode D 1{}");
        int[] sensed = {0, 1, 2, 5, 6, 9, 10};
        int[] due = {0, 0, 1, 1, 2, 2, 3};
        for (int i = 0; i < sensed.length; i++) {
            x.reset(0);
            x.tick(1);
            x.sensor(0, sensed[i]);
            x.tick(1);
            states(x, "by " + sensed[i], due[i], sensed[i] == 0 ? 2 : 1, sensed[i] == 0 ? 0 : 1);
        }
        // One that isn't tried at the tick leaves it to the next.
        LogicalTimes y = Due.run("mode A 6{switch 1 if 1 to B;switch 3 if 1 to C;}mode B 1{}mode C 1{}");
        y.tick(3);
        states(y, "the second one, at 2", 2, 1, 1);
    }

    private static void multiplesOfItsPart() {
        Due.sentence("of which the tick is a multiple of period / number");
        for (int number : new int[] {1, 2, 3, 6}) {
            int part = 6 / number;
            for (int at = 1; at <= 12; at++) {
                LogicalTimes x = Due.run("sensor s;mode A 6{switch " + number + " if s to B;}mode B 100{}");
                x.tick(at);
                x.sensor(0, 1);
                x.tick(1);
                boolean isMultiple = at % part == 0;
                Due.same("switch " + number + " at tick " + at, x.state(MODE), isMultiple ? 1 : 0);
                Due.same("switches by switch " + number + " at tick " + at, x.state(SWITCHES), isMultiple ? 1 : 0);
                Due.same("tick by switch " + number + " at tick " + at, x.state(TICK), isMultiple ? 1 : at % 6 + 1);
            }
        }
        LogicalTimes y = Due.run("sensor s;mode A 120{switch 1 if s to B;}mode B 1{}");
        y.sensor(0, 1);
        y.tick(120);
        states(y, "ahead of the end", 0, 120, 0);
        y.tick(1);
        states(y, "at the end of the longest period", 1, 1, 1);
    }

    private static void unlessItsEIs0() {
        Due.sentence("whose E .. isn't 0");
        for (int s : new int[] {0, 1, -1, 2, MOST, LEAST}) {
            LogicalTimes x = Due.run("sensor s;mode A 1{switch 1 if s to B;}mode B 1{}");
            x.sensor(0, s);
            x.tick(2);
            Due.same("mode by " + s, x.state(MODE), s == 0 ? 0 : 1);
        }
    }

    private static void byWhatIsDenoted() {
        Due.sentence("(by what is denoted, and the sensors)");
        // p changes at 4, when the run is dropped: the node sees nothing, but the switch goes by what is denoted.
        LogicalTimes x = Due.run("port p=0;mode A 4{task t 1 on 0{p=1;repeat 9{}}switch 1 if p to B;}mode B 9{}");
        x.tick(5);
        states(x, "behind the dropped run", 1, 1, 1);
        Due.same("denoted", x.denoted(0), 1);
        Due.same("seen", x.port(0, 0), 0);
        LogicalTimes y = Due.run("sensor s;mode A 6{switch 1 if s to B;}mode B 1{}");
        y.tick(6);
        y.sensor(0, -1);
        y.tick(1);
        states(y, "by a sensor told for the tick at hand", 1, 1, 1);
    }

    private static void modeBeginsWithTick0() {
        Due.sentence("its mode begins, with its tick 0");
        // A mode that is entered begins all of its spans anew, also the mode that was left.
        LogicalTimes z = Due.run("port p=0;sensor s;mode A 6{task t 3 on 0{p=p+1;}switch 3 if s to A;}");
        z.sensor(0, 1);
        z.tick(7);
        Due.same("three spans", z.denoted(0), 3);
        states(z, "in the mode again", 0, 1, 3);
        // The slots of the new mode, from its tick 0 on.
        LogicalTimes x = Due.run("port p=0;mode A 4{switch 4 if 1 to B;}mode B 6{task b 1 on 0{p=5;}task c 1 on 1{x=p;}slots 2;}");
        x.tick(1 + 2);
        Due.same("ahead of the slot", x.state(SENT), 0);
        x.tick(1);
        Due.same("in the slot", x.state(SENT), 1);
        x.tick(4);
        Due.same("when the span ends", x.port(1, 0), 5);
    }

    private static void beginsAgain() {
        Due.sentence("a mode that isn't left begins again with tick 0 when its period has gone by");
        for (int period : new int[] {1, 2, 3, 119, 120}) {
            LogicalTimes x = Due.run("port p=0;mode A " + period + "{task t 1 on 0{p=p+1;}}");
            int ahead = Math.max(1, period - 2);
            x.tick(ahead);
            for (int gone = ahead + 1; gone <= ahead + 12; gone++) {
                x.tick(1);
                states(x, "period " + period + " behind " + gone, 0, (gone - 1) % period + 1, 0);
                Due.same("spans of " + period + " that ended", x.denoted(0), (gone - 1) / period);
            }
        }
    }

    private static void beginsComeLast() {
        Due.sentence("then what begins");
        // What ends in a tick is read by what begins in it, in the mode that the tick's switch goes to.
        LogicalTimes y = Due.run("port p=0;port q=0;mode A 4{task t 2 on 0{p=p+1;}switch 2 if p>1 to B;}"
            + "mode B 1{task u 1 on 0{q=p;}}");
        y.tick(6);
        Due.same("the new mode's task", y.denoted(1), 2);
        Due.same("the old mode's task begins no more", y.denoted(0), 2);
        Due.same("runs done: two of t, two of u", y.state(DONE), 4);
    }

    private static void seenOnItsNode() {
        Due.sentence("on the task's own node it is what its run gives, if that is done");
        for (int node = 0; node < 4; node++) {
            LogicalTimes x = Due.run("port p=1;mode M 6{task t 2 on " + node + "{p=p+1;repeat 2{}}}");
            x.tick(3);
            Due.same("ahead of the end", x.port(node, 0), 1);
            x.tick(1);
            for (int other = 0; other < 4; other++) {
                Due.same("done in the last tick: on " + other, x.port(other, 0), other == node ? 2 : 1);
            }
        }
        LogicalTimes y = Due.run("port p=1;mode M 6{task t 2 on 2{p=p+1;repeat 3{}}}");
        y.tick(4);
        Due.same("not done", y.port(2, 0), 1);
        Due.same("but denoted", y.denoted(0), 2);
        y.takes(0, 3);
        y.tick(6);
        Due.same("done, by what the node sees", y.port(2, 0), 2);
        Due.same("denoted", y.denoted(0), 4);
    }

    private static void seenOnOthers() {
        Due.sentence("on all others that, if a message for it was sent");
        // One slot, two ports: q's message has none.
        LogicalTimes x = Due.run("port p=0;port q=0;mode M 4{task a 1 on 0{p=5;q=6;}task b 1 on 1{x=p+q;}slots 2;}");
        x.tick(4);
        Due.same("sent, but the span hasn't ended", x.port(1, 0), 0);
        x.tick(1);
        for (int node = 0; node < 4; node++) {
            Due.same("p, also where none reads it, on " + node, x.port(node, 0), 5);
            Due.same("q on its own node alone, on " + node, x.port(node, 1), node == 0 ? 6 : 0);
        }
        // Two slots, two ports: both are sent, and seen together.
        LogicalTimes both = Due.run("port p=0;port q=0;mode M 4{task a 1 on 0{p=5;q=6;}task b 1 on 1{x=p+q;}slots 2,3;}");
        both.tick(5);
        for (int node = 0; node < 4; node++) {
            Due.same("p of both on " + node, both.port(node, 0), 5);
            Due.same("q of both on " + node, both.port(node, 1), 6);
        }
        // Each span has a message of its own.
        LogicalTimes y = Due.run("port p=0;mode M 4{task a 2 on 0{p=p+1;}task b 1 on 1{x=p;}slots 1;}");
        int[] due = {0, 0, 1, 1, 1, 1, 3};
        for (int i = 0; i < due.length; i++) {
            y.tick(1);
            Due.same("p elsewhere in tick " + i, y.port(1, 0), due[i]);
        }
        // No task elsewhere reads it: no message, so the others don't see it.
        LogicalTimes z = Due.run("port p=0;mode M 4{task a 2 on 0{p=p+1;}slots 1,3;}");
        z.tick(9);
        Due.same("on its own node", z.port(0, 0), 4);
        Due.same("elsewhere", z.port(3, 0), 0);
        Due.same("none is sent", z.state(SENT), 0);
    }

    private static void computesWithWhatItsNodeSees() {
        Due.sentence("A run computes with what its node sees.");
        // b sees p never change, so it sends what it makes of the first p.
        LogicalTimes y = Due.run("port p=1;port q=0;mode M 4{task b 1 on 1{q=p*10;}task a 1 on 0{p=p+1;}"
            + "task c 1 on 2{x=q;}slots 1;}");
        Due.same("a's message has no slot", y.check(0), 1002);
        y.tick(9);
        Due.same("p denoted", y.denoted(0), 3);
        Due.same("p on a's node", y.port(0, 0), 3);
        Due.same("p on b's node", y.port(1, 0), 1);
        Due.same("q denoted", y.denoted(1), 20);
        Due.same("q on b's node", y.port(1, 1), 10);
        Due.same("q on c's node", y.port(2, 1), 10);
        Due.same("q where none reads it", y.port(3, 1), 10);
    }

    private static void messagesInTheirSlots() {
        Due.sentence("In its slot's tick a message is sent, if its task's run is done ahead of that tick.");
        // Done: a at 1 (ends 6) and 7 (ends 12); b at 2, 6 and 10. Slots: b0 2, a0 5, b1 6, a1 9, b2 11.
        LogicalTimes x = Due.run("port p=1;port q=0;sensor s;mode M 12{task a 2 on 0{p=q+s;}"
            + "task b 3 on 1{x=p*2;q=x-1;}slots 2,5,6,9,11;}");
        x.sensor(0, 5);
        int[] sent = {0, 0, 1, 1, 1, 2, 3, 3, 3, 4, 4, 5, 5};
        int[] done = {1, 2, 2, 2, 2, 3, 4, 4, 4, 5, 5, 5, 6};
        int[] p = {1, 1, 1, 1, 1, 1, 5, 5, 5, 5, 5, 5, 6};
        int[] q = {0, 0, 0, 0, 1, 1, 1, 1, 1, 1, 1, 1, 9};
        for (int i = 0; i < sent.length; i++) {
            x.tick(1);
            Due.same("sent by tick " + i, x.state(SENT), sent[i]);
            Due.same("done by tick " + i, x.state(DONE), done[i]);
            for (int node = 0; node < 4; node++) {
                Due.same("p on " + node + " in tick " + i, x.port(node, 0), p[i]);
                Due.same("q on " + node + " in tick " + i, x.port(node, 1), q[i]);
            }
            Due.same("p denoted in tick " + i, x.denoted(0), p[i]);
            Due.same("q denoted in tick " + i, x.denoted(1), q[i]);
        }
        // A run that is done sooner is sent in its slot all the same.
        x.reset(0);
        x.takes(0, 0);
        x.takes(1, 0);
        x.tick(2);
        Due.same("ahead of the first slot", x.state(SENT), 0);
        x.tick(1);
        Due.same("in the first slot", x.state(SENT), 1);
        x.tick(3);
        Due.same("in the second slot", x.state(SENT), 2);
        // The first tick that a message may be sent in, and the last one.
        LogicalTimes y = Due.run("port p=0;mode M 4{task a 1 on 0{p=5;}task b 1 on 1{x=p;}slots 1;}");
        LogicalTimes z = Due.run("port p=0;mode M 4{task a 1 on 0{p=5;}task b 1 on 1{x=p;}slots 3;}");
        y.tick(2);
        z.tick(3);
        Due.same("at 1", y.state(SENT), 1);
        Due.same("not yet", z.state(SENT), 0);
        z.tick(1);
        Due.same("at 3", z.state(SENT), 1);
        y.tick(3);
        z.tick(1);
        Due.same("both are seen when the span ends", y.port(1, 0) * 10 + z.port(1, 0), 55);
    }

    private static void messagesOfAMissingMode() {
        Due.sentence("a message that has no slot isn't sent: a task of its mode misses");
        LogicalTimes x = Due.run("port p=0;port q=0;sensor s;mode M 4{task a 1 on 0{p=5;q=6;}task b 1 on 1{x=p+q;}"
            + "switch 1 if s to N;slots 2;}mode N 4{task c 1 on 0{p=8;}task d 1 on 1{repeat 5{}}slots 2,3;}");
        x.tick(5);
        x.sensor(0, 1);
        // d is told to be in time: checking goes by its worst nevertheless.
        x.takes(3, 0);
        x.tick(8);
        Due.same("in N none", x.state(SENT), 2);
        Due.same("no fault", x.state(FAULTS), 0);
        Due.same("p on its own node", x.port(0, 0), 8);
        Due.same("p elsewhere", x.port(1, 0), 5);
    }

    private static void takesItsWorst() {
        Due.sentence("each run takes as many ticks as takes() told for it, else its worst");
        LogicalTimes x = Due.run("mode M 10{task a 1 on 0{repeat 5{}}task b 1 on 0{x=1;}task c 1 on 1{}}");
        x.takes(0, 2);
        x.tick(1);
        Due.same("c is done when it begins", x.state(DONE), 1);
        x.tick(1);
        Due.same("a takes two", x.state(DONE), 2);
        x.tick(1);
        Due.same("then b", x.state(DONE), 3);
        Due.same("ran", x.running(0), 1);
        x.tick(7);
        x.tick(4);
        Due.same("c", x.state(DONE), 4);
        x.tick(1);
        Due.same("a takes five", x.state(DONE), 5);
        // The worst counts, though the way along which the run goes is shorter.
        LogicalTimes y = Due.run("mode M 10{task a 1 on 0{if 0{repeat 5{}}}}");
        y.tick(5);
        Due.same("five ticks", y.state(DONE), 0);
        y.tick(1);
        Due.same("six ticks", y.state(DONE), 1);
    }

    private static void runsTheTaskThatCheckingTells() {
        Due.sentence("In each tick each node runs the task that checking tells");
        // a (span 12, 5 ticks), b (span 4, 2 ticks): b 0 1, a 2 3, b 4 5, a 6 7, a 8 (first of the two that end at 12), b 9 10.
        LogicalTimes x = Due.run("mode A 12{task a 1 on 0{repeat 5{}}task b 3 on 0{repeat 2{}}task c 2 on 3{x=1;}}");
        int[] zero = {1, 1, 0, 0, 1, 1, 0, 0, 0, 1, 1, -1, 1};
        int[] three = {2, -1, -1, -1, -1, -1, 2, -1, -1, -1, -1, -1, 2};
        for (int i = 0; i < zero.length; i++) {
            x.tick(1);
            Due.same("node 0 in tick " + i, x.running(0), zero[i]);
            Due.same("node 1 in tick " + i, x.running(1), -1);
            Due.same("node 3 in tick " + i, x.running(3), three[i]);
        }
        // Runs that are shorter make room: what runs goes by what is left, not by what was checked.
        x.reset(0);
        x.takes(1, 0);
        x.tick(1);
        Due.same("b is done at once, so a runs", x.running(0), 0);
        x.tick(4);
        Due.same("b has begun again, and ends first", x.running(0), 1);
    }

    private static void droppedIsAFault() {
        Due.sentence("A run that isn't done when its span ends is dropped: a FAULT.");
        LogicalTimes x = Due.run("mode M 4{task a 1 on 0{repeat 4{}}task b 1 on 1{repeat 5{}}}");
        x.tick(4);
        Due.same("the spans haven't ended", x.state(FAULTS), 0);
        x.tick(1);
        Due.same("one tick too few", x.state(FAULTS), 1);
        Due.same("b's", x.state(LATEST_FAULT), 1);
        // The next run begins from its first tick: nothing of the dropped one is left.
        x.tick(4);
        Due.same("again", x.state(FAULTS), 2);
        Due.same("it is never done", x.state(DONE), 2);
        x.takes(1, 4);
        x.tick(4);
        Due.same("the run at hand was too long still", x.state(FAULTS), 3);
        x.tick(4);
        Due.same("the told one is in time", x.state(FAULTS), 3);
        Due.same("and done", x.state(DONE), 5);
    }

    private static void resetBegins() {
        Due.sentence("Runs from the beginning of mode m on, tick 0 being at hand");
        LogicalTimes x = Due.run("port p=0;port q=0;sensor s;mode A 2{task a 2 on 0{p=p+1;repeat 2{}}switch 1 if 1 to B;}"
            + "mode B 3{task b 1 on 1{q=p;}task c 1 on 2{x=q;}slots 2;}");
        x.tick(11);
        int[] went = {0, 1, 5, 10};
        for (int ticks : went) {
            if (ticks > 0) {
                x.tick(ticks);
            }
            x.reset(1);
            int[] due = {1, 0, 0, 0, -1, 0, 0};
            for (int what = 0; what < due.length; what++) {
                Due.same("reset behind " + ticks + ": state(" + what + ")", x.state(what), due[what]);
            }
            for (int node = 0; node < 4; node++) {
                Due.same("reset: running on " + node, x.running(node), -1);
            }
        }
        x.tick(3);
        Due.same("all of it has gone by", x.state(TICK), 3);
        Due.same("its message is sent", x.state(SENT), 1);
        // A run that was under way is gone with all that it would have given.
        LogicalTimes y = Due.run("port p=0;mode A 4{task a 1 on 0{p=1;}}mode B 9{}");
        y.tick(4);
        y.reset(1);
        y.tick(9);
        Due.same("nothing ends in B", y.denoted(0), 0);
        Due.same("no fault either", y.state(FAULTS), 0);
    }

    private static void resetFirstValues() {
        Due.sentence("ports, also as they are seen, have their first values");
        String twelve = Texts.row(12, p -> "port p" + p + "=" + (p == 11 ? 999999 : p) + ";");
        LogicalTimes x = Due.run(twelve + "mode A 20{task a 1 on 2{" + Texts.row(12, p -> "p" + p + "=1-p" + p + ";")
            + "}task b 1 on 3{" + Texts.row(12, p -> "x=p" + p + ";") + "}slots 12,13,14,15,16;}");
        x.tick(21);
        Due.same("the last one has changed", x.denoted(11), 1 - 999999);
        x.reset(0);
        for (int p = 0; p < 12; p++) {
            int first = p == 11 ? 999999 : p;
            Due.same("denoted(" + p + ")", x.denoted(p), first);
            for (int node = 0; node < 4; node++) {
                Due.same("port(" + node + ", " + p + ")", x.port(node, p), first);
            }
        }
    }

    private static void resetSensors() {
        Due.sentence("sensors 0");
        LogicalTimes x = Due.run("port p=0;sensor a;sensor b;sensor c;sensor d;mode A 1{task t 1 on 0{p=a+b*10+c*100+d*1000+1;}}");
        x.tick(2);
        Due.same("at first", x.denoted(0), 1);
        for (int s = 0; s < 4; s++) {
            x.sensor(s, s + 1);
        }
        x.tick(2);
        Due.same("as told", x.denoted(0), 4322);
        x.reset(0);
        x.tick(2);
        Due.same("behind reset", x.denoted(0), 1);
    }

    private static void resetTimes() {
        Due.sentence("times nothing told");
        LogicalTimes x = Due.run("mode A 8{task a 1 on 0{repeat 4{}}}mode B 8{task b 1 on 0{repeat 4{}}}");
        x.takes(0, 1);
        x.takes(1, 1);
        x.reset(0);
        x.tick(3);
        Due.same("a takes its worst", x.state(DONE), 0);
        x.tick(1);
        Due.same("a is done", x.state(DONE), 1);
        x.reset(1);
        x.tick(3);
        Due.same("b takes its worst", x.state(DONE), 0);
        x.tick(1);
        Due.same("b is done", x.state(DONE), 1);
    }

    private static void resetToEachMode() {
        Due.sentence("Runs from the beginning of mode m on");
        LogicalTimes x = Due.program("mode A 1{}mode B 2{}mode C 3{}mode D 4{}");
        for (int m = 0; m < 4; m++) {
            x.reset(m);
            Due.same("the mode", x.state(MODE), m);
            x.tick(m + 2);
            states(x, "mode " + m, m, 1, 0);
        }
    }

    private static void takesFrom0ToWorst() {
        Due.sentence("The next run of a task that begins takes n ticks (0 to its worst)");
        for (int n = 0; n <= 6; n++) {
            LogicalTimes x = Due.run("mode M 10{task a 1 on 0{repeat 6{}}}");
            x.takes(0, n);
            x.tick(Math.max(1, n));
            Due.same("done behind " + n, x.state(DONE), 1);
            Due.same("ran in the last of them", x.running(0), n == 0 ? -1 : 0);
            x.reset(0);
            x.takes(0, n);
            if (n > 1) {
                x.tick(n - 1);
                Due.same("not yet", x.state(DONE), 0);
            }
        }
        LogicalTimes most = Due.run("mode M 120{task a 1 on 0{repeat 9{repeat 7{x=1;x=2;}}x=1;x=1;}task b 1 on 1{}}");
        most.takes(0, 200);
        most.takes(1, 0);
        most.tick(121);
        Due.same("200 of 120", most.state(FAULTS), 1);
        most.reset(0);
        most.takes(0, 120);
        most.tick(121);
        Due.same("120 of 120", most.state(FAULTS), 0);
        most.reset(0);
        most.takes(0, 121);
        most.tick(121);
        Due.same("121 of 120", most.state(FAULTS), 1);
    }

    private static void takesTheNextRun() {
        Due.sentence("The next run of a task that begins");
        LogicalTimes x = Due.run("sensor s;mode A 2{switch 1 if s to B;}mode B 8{task b 2 on 0{repeat 4{}}}");
        x.takes(0, 1);
        x.takes(0, 2);
        x.tick(4);
        x.sensor(0, 1);
        x.tick(2);
        Due.same("the later telling, kept until the run begins", x.state(DONE), 1);
        Due.same("ran", x.running(0), 0);
        x.tick(1);
        Due.same("it is done", x.running(0), -1);
        // A run that has begun is as it was.
        x.reset(1);
        x.tick(1);
        x.takes(0, 1);
        x.tick(2);
        Due.same("the run at hand takes four", x.state(DONE), 0);
        x.tick(1);
        Due.same("four", x.state(DONE), 1);
        x.tick(1);
        Due.same("the next one takes one", x.state(DONE), 2);
    }

    private static void takesOnce() {
        Due.sentence("The next run .. takes n ticks: that run alone");
        LogicalTimes x = Due.run("mode A 8{task a 2 on 0{repeat 4{}}}");
        x.takes(0, 0);
        x.tick(7);
        Due.same("the second run isn't done in three", x.state(DONE), 1);
        x.tick(1);
        Due.same("but in four", x.state(DONE), 2);
    }

    private static void sensorsHaveAnyValue() {
        Due.sentence("A sensor has a value");
        LogicalTimes x = Due.run("port p=0;sensor a;sensor b;sensor c;sensor d;mode A 1{task t 1 on 0{p=d;}}");
        for (int v : new int[] {0, 1, -1, 999999, 1000000, MOST, LEAST}) {
            x.sensor(3, v);
            x.sensor(0, 5);
            x.tick(2);
            Due.same("the last sensor", x.denoted(0), v);
        }
        x.sensor(3, 7);
        x.sensor(3, -4);
        x.tick(2);
        Due.same("the later one", x.denoted(0), -4);
        x.tick(5);
        Due.same("it stays", x.denoted(0), -4);
    }

    private static void sensorsFromTheTickAtHand() {
        Due.sentence("from the beginning of the tick at hand on");
        LogicalTimes x = Due.run("port p=0;sensor s;sensor u;mode M 1{task t 1 on 0{p=s*10+u;}}");
        x.sensor(0, 1);
        x.tick(1);
        x.sensor(1, 5);
        Due.same("nothing that went by changes", x.denoted(0), 0);
        x.tick(1);
        Due.same("the first tick's", x.denoted(0), 10);
        x.tick(1);
        Due.same("the second tick's", x.denoted(0), 15);
        LogicalTimes y = Due.run("sensor s;mode A 3{switch 1 if s to B;}mode B 1{}");
        y.tick(3);
        y.sensor(0, 1);
        states(y, "told, but the tick is at hand still", 0, 3, 0);
        y.tick(1);
        states(y, "its beginning", 1, 1, 1);
    }

    private static void ticksFrom1To200() {
        Due.sentence("So many ticks go by, 1 to 200.");
        LogicalTimes x = Due.run("port p=0;mode M 120{task a 120 on 0{p=p+1;}}");
        x.tick(1);
        Due.same("1 tick, at hand", x.state(TICK), 1);
        x.tick(199);
        Due.same("199 more, at hand", x.state(TICK), 80);
        x.reset(0);
        x.tick(200);
        Due.same("200 ticks, denoted", x.denoted(0), 199);
        Due.same("200 ticks, seen", x.port(0, 0), 199);
        Due.same("200 ticks, at hand", x.state(TICK), 80);
        Due.same("200 ticks, done", x.state(DONE), 200);
        for (int n = 0; n < 100; n++) {
            x.tick(200);
        }
        Due.same("101 times 200", x.denoted(0), 101 * 200 - 1);
    }

    private static void portBeforeAny() {
        Due.sentence("(the first values before any)");
        LogicalTimes x = Due.run("port p=4;port q=999999;port r=0;mode M 1{task t 1 on 0{p=1;q=2;r=3;}}");
        for (int node = 0; node < 4; node++) {
            Due.same("p on " + node, x.port(node, 0), 4);
            Due.same("q on " + node, x.port(node, 1), 999999);
            Due.same("r on " + node, x.port(node, 2), 0);
        }
    }

    private static void portInTheLatestTick() {
        Due.sentence("What a node sees of a port, in the tick that went by latest");
        LogicalTimes x = Due.run("port p=1;mode M 6{task t 2 on 1{p=p+1;}}");
        int[] due = {1, 1, 1, 2, 2, 2, 3, 3, 3, 4};
        for (int i = 0; i < due.length; i++) {
            x.tick(1);
            Due.same("on its node in tick " + i, x.port(1, 0), due[i]);
            Due.same("on another in tick " + i, x.port(0, 0), 1);
        }
    }

    private static void denotedInTheLatestTick() {
        Due.sentence("What is denoted of it.");
        LogicalTimes x = Due.run("port p=1;port q=5;mode M 6{task t 2 on 1{p=p+1;}}");
        int[] due = {1, 1, 1, 2, 2, 2, 3, 3, 3, 4};
        Due.same("before any", x.denoted(0), 1);
        for (int i = 0; i < due.length; i++) {
            x.tick(1);
            Due.same("in tick " + i, x.denoted(0), due[i]);
            Due.same("the other one", x.denoted(1), 5);
        }
    }

    private static void stateOfTheTick() {
        Due.sentence("the tick in it that is at hand (what 1; the period, if all of it has gone by)");
        LogicalTimes x = Due.run("mode A 3{}");
        Due.same("before any", x.state(TICK), 0);
        int[] due = {1, 2, 3, 1, 2, 3, 1};
        for (int i = 0; i < due.length; i++) {
            x.tick(1);
            Due.same("behind tick " + i, x.state(TICK), due[i]);
        }
        LogicalTimes y = Due.run("mode A 120{}");
        y.tick(119);
        Due.same("the last tick", y.state(TICK), 119);
        y.tick(1);
        Due.same("the period", y.state(TICK), 120);
        y.tick(1);
        Due.same("the next one", y.state(TICK), 1);
    }

    private static void stateOfSwitches() {
        Due.sentence("The mode (what 0) .. switches so far (2)");
        LogicalTimes x = Due.run("sensor s;mode A 6{switch 2 if s to B;switch 3 if s to C;switch 6 if s>5 to D;}"
            + "mode B 4{switch 1 if 1 to A;}mode C 2{}mode D 1{switch 1 if 0-s to D;}");
        states(x, "reset", 0, 0, 0);
        x.tick(3);
        x.sensor(0, 1);
        x.tick(1);
        states(x, "B begins", 1, 1, 1);
        x.tick(3);
        states(x, "all of B has gone by", 1, 4, 1);
        x.tick(1);
        states(x, "B is left at its period", 0, 1, 2);
        x.sensor(0, 6);
        x.tick(1);
        states(x, "D begins", 3, 1, 3);
        x.tick(3);
        states(x, "a switch to the same mode counts", 3, 1, 6);
        x.sensor(0, 0);
        x.tick(2);
        states(x, "beginning again counts not", 3, 1, 6);
    }

    private static void stateOfFaults() {
        Due.sentence("faults so far (3), the task of the latest fault (4; -1)");
        LogicalTimes x = Due.run("port p=0;port q=0;mode M 4{task a 1 on 0{p=p+1;repeat 4{}}task b 2 on 1{q=q+1;repeat 2{}}"
            + "task c 1 on 2{}}");
        Due.same("none at first", x.state(LATEST_FAULT), -1);
        x.tick(2);
        Due.same("a span that ends at hand", x.state(FAULTS), 0);
        Due.same("none yet", x.state(LATEST_FAULT), -1);
        x.tick(1);
        Due.same("b", x.state(FAULTS), 1);
        Due.same("the latest", x.state(LATEST_FAULT), 1);
        x.takes(1, 2);
        x.tick(2);
        Due.same("a and b at once", x.state(FAULTS), 3);
        Due.same("the later task", x.state(LATEST_FAULT), 1);
        Due.same("p is denoted", x.denoted(0), 1);
        Due.same("but not seen", x.port(0, 0), 0);
        Due.same("q is denoted", x.denoted(1), 2);
        x.tick(2);
        Due.same("b was in time", x.state(FAULTS), 3);
        Due.same("it goes on from what it saw", x.port(1, 1), 1);
        Due.same("the language from what it says", x.denoted(1), 3);
        x.takes(1, 1);
        x.tick(2);
        Due.same("both again", x.state(FAULTS), 5);
        x.takes(0, 0);
        x.takes(1, 0);
        x.tick(4);
        Due.same("a alone, whose run began ahead of the telling", x.state(FAULTS), 6);
        Due.same("a is the latest", x.state(LATEST_FAULT), 0);
        x.takes(1, 1);
        x.tick(2);
        Due.same("b alone", x.state(FAULTS), 7);
        Due.same("b is the latest", x.state(LATEST_FAULT), 1);
        x.tick(2);
        Due.same("both in time", x.state(FAULTS), 7);
        Due.same("b is the latest still", x.state(LATEST_FAULT), 1);
        Due.same("a is seen at last", x.port(0, 0), 1);
        LogicalTimes most = Due.run(Texts.most());
        most.reset(3);
        most.tick(200);
        Due.same("faults of the most", most.state(FAULTS), 6 * 199);
        Due.same("the last task of the most", most.state(LATEST_FAULT), 23);
    }

    private static void stateOfMessages() {
        Due.sentence("messages sent (5)");
        LogicalTimes y = Due.run("port p=0;port q=0;mode M 6{task a 2 on 0{p=p+1;q=1;}task b 1 on 1{x=p+q;}slots 2,5;}"
            + "mode N 1{}");
        Due.same("at first", y.state(SENT), 0);
        int[] due = {0, 0, 1, 1, 1, 2, 2, 2, 3};
        for (int i = 0; i < due.length; i++) {
            y.tick(1);
            Due.same("behind tick " + i, y.state(SENT), due[i]);
        }
    }

    private static void stateOfRuns() {
        Due.sentence("runs done (6)");
        LogicalTimes x = Due.run("mode M 6{task a 1 on 0{repeat 2{}}task b 2 on 0{}task c 6 on 1{x=1;}task d 3 on 2{repeat 3{}}}");
        Due.same("at first", x.state(DONE), 0);
        // b at 0 and 3; c in each tick; a in tick 1; d never.
        int[] due = {2, 4, 5, 7, 8, 9, 11};
        for (int i = 0; i < due.length; i++) {
            x.tick(1);
            Due.same("behind tick " + i, x.state(DONE), due[i]);
        }
    }

    private static void runningTasks() {
        Due.sentence("The task that ran on a node in the tick that went by latest");
        LogicalTimes x = Due.run("mode A 2{task a 1 on 3{x=1;}switch 1 if 1 to B;}mode B 4{task b 1 on 0{}task c 1 on 3{repeat 2{}}"
            + "task d 1 on 3{x=1;}}");
        int[] due = {0, -1, 2, 2, 3, -1, 2};
        for (int i = 0; i < due.length; i++) {
            x.tick(1);
            Due.same("node 3 in tick " + i, x.running(3), due[i]);
            Due.same("node 0 in tick " + i, x.running(0), -1);
        }
        LogicalTimes most = Due.run(Texts.most());
        most.reset(3);
        most.tick(1);
        Due.same("the first task of the last mode", most.running(3), 18);
    }

    private static void runningNone() {
        Due.sentence("-1 if none did");
        LogicalTimes x = Due.run("mode A 3{task a 1 on 0{x=1;}}");
        for (int node = 0; node < 4; node++) {
            Due.same("before any tick on " + node, x.running(node), -1);
        }
        x.tick(1);
        Due.same("it ran", x.running(0), 0);
        x.tick(1);
        Due.same("it is done", x.running(0), -1);
        x.tick(2);
        Due.same("it ran again", x.running(0), 0);
        x.reset(0);
        Due.same("none behind reset", x.running(0), -1);
    }

    private static void lastOf512Calls() {
        Due.sentence("An object is used for at most 512 calls after it has been made");
        String text = "port p=0;mode M 1{task t 1 on 0{p=p+1;}}";
        LogicalTimes x = Due.run(text);
        // The feeds, end, compile and reset went ahead, and one call is left to ask.
        int ticks = 512 - ((text.length() + 19) / 20 + 3) - 1;
        for (int n = 0; n < ticks; n++) {
            x.tick(200);
        }
        Due.same("the last of 512 calls", x.denoted(0), ticks * 200 - 1);
    }
}
