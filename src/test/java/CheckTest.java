import java.util.NoSuchElementException;

/** Promises 7 to 9, sentence by sentence: check, slack and slot, with what checking and messages are. */
public final class CheckTest {
    private static final int LEAST = Integer.MIN_VALUE;
    private static final int MOST = Integer.MAX_VALUE;

    public static void main(String[] args) {
        endsFirst();
        theFirstTask();
        nodesRunByThemselves();
        misses();
        droppedRuns();
        worstOf0();
        slotsRise();
        doneAtTheSlot();
        endsBehindTheSlot();
        hasNoSlotYet();
        messageThatEndsFirst();
        lowestNumber();
        numbersOfMessages();
        ifNoTaskMisses();
        checkIs0();
        checkTellsATask();
        checkTellsAMessage();
        leastSlack();
        slackOfAMiss();
        slotsTick();
        slotOfNone();
        noSuchMode();
        noSuchTask();
        noSuchMessage();
        askedAgain();
        Due.close();
    }

    private static void slacks(LogicalTimes x, int... due) {
        for (int t = 0; t < due.length; t++) {
            Due.same("slack(" + t + ")", x.slack(t), due[t]);
        }
    }

    private static void slots(LogicalTimes x, int m, int... due) {
        for (int i = 0; i < due.length; i++) {
            Due.same("slot(" + m + ", " + i + ")", x.slot(m, i), due[i]);
        }
        Due.refused("slot behind the last", NoSuchElementException.class, () -> x.slot(m, due.length));
    }

    private static void endsFirst() {
        Due.sentence("each node runs, tick by tick, .. the one whose span ends first");
        // a (span 12, 5 ticks) waits for b (span 4, 2 ticks): b 0 1, a 2 3, b 4 5, a 6 7, then a ties with b: a 8, b 9 10.
        LogicalTimes x = Due.program("mode A 12{task a 1 on 0{repeat 5{}}task b 3 on 0{repeat 2{}}}");
        Due.same("check", x.check(0), 0);
        slacks(x, 3, 1);
        // b stands behind a, and ends first nevertheless.
        LogicalTimes y = Due.program("mode A 12{task a 1 on 0{repeat 9{}}task b 2 on 0{x=1;}}");
        slacks(y, 2, 1);
    }

    private static void theFirstTask() {
        Due.sentence("(of these the first task)");
        LogicalTimes x = Due.program("mode A 12{task b 3 on 0{repeat 2{}}task a 1 on 0{repeat 5{}}}");
        // The other way round b goes first in the tie: b 8 9, a 10.
        slacks(x, 2, 1);
        LogicalTimes y = Due.program("mode A 6{task a 1 on 0{x=1;}task b 1 on 0{repeat 2{}}task c 1 on 0{repeat 3{}}}");
        Due.same("one behind the other", y.check(0), 0);
        slacks(y, 5, 3, 0);
    }

    private static void nodesRunByThemselves() {
        Due.sentence("each node runs .. of its tasks");
        LogicalTimes x = Due.program("mode A 12{task a 1 on 1{repeat 5{}}task b 3 on 0{repeat 2{}}task c 1 on 2{repeat 6{}repeat 6{}}"
            + "task d 12 on 3{x=1;}}");
        Due.same("check", x.check(0), 0);
        slacks(x, 7, 2, 0, 0);
    }

    private static void misses() {
        Due.sentence("A task that isn't done when its span ends MISSES");
        Due.same("as many ticks as the span has", Due.program("mode A 4{task a 1 on 0{repeat 4{}}}").check(0), 0);
        Due.same("one tick more", Due.program("mode A 4{task a 1 on 0{repeat 5{}}}").check(0), 1);
        Due.same("a span of one tick", Due.program("mode A 4{task a 4 on 0{x=1;}}").check(0), 0);
        Due.same("two ticks in it", Due.program("mode A 4{task a 4 on 0{x=1;x=1;}}").check(0), 1);
        Due.same("200 in 120", Due.program("mode A 120{task a 1 on 0{repeat 9{repeat 7{x=1;x=2;}}x=1;x=1;}}").check(0), 1);
        String two = "mode A 4{task a 1 on 0{repeat 2{}}task b 1 on 0{repeat ";
        Due.same("both fill the span", Due.program(two + "2{}}}").check(0), 0);
        Due.same("the second one has a tick too many", Due.program(two + "3{}}}").check(0), 2);
    }

    private static void droppedRuns() {
        Due.sentence("and its run is dropped");
        // a is dropped at 4 and at 8, so that b, which goes first when both end at 12, waits until 8.
        LogicalTimes x = Due.program("mode A 12{task b 1 on 0{x=1;}task a 3 on 0{repeat 5{}}}");
        Due.same("check", x.check(0), 2);
        slacks(x, 3, -1);
    }

    private static void worstOf0() {
        Due.sentence("one whose worst is 0 is done when its span begins");
        LogicalTimes x = Due.program("mode A 6{task a 1 on 0{repeat 6{}}task b 6 on 0{}task c 2 on 0{}task d 1 on 1{}}");
        Due.same("check", x.check(0), 0);
        slacks(x, 0, 1, 3, 6);
        LogicalTimes y = Due.program("mode A 6{task a 6 on 0{}task b 1 on 0{repeat 7{}}}");
        Due.same("the other one misses", y.check(0), 2);
        slacks(y, 1, -1);
        Due.same("the most", Due.program("mode A 120{task a 1 on 0{}}").slack(0), 120);
    }

    /** Done: a at 1 (ends 6) and 7 (ends 12); b at 2 (4), 6 (8) and 10 (12). */
    private static LogicalTimes twoTasks(String slots) {
        return Due.program("port p=1;port q=0;mode M 12{task a 2 on 0{p=q;}task b 3 on 1{x=p*2;q=x-1;}slots " + slots + ";}");
    }

    private static void slotsRise() {
        Due.sentence("along the slots, rising, each takes");
        LogicalTimes x = twoTasks("2,5,6,9,11");
        Due.same("check", x.check(0), 0);
        slots(x, 0, 5, 9, 2, 6, 11);
        // 0: none is done. 1: a0. 4: b0's span has ended. 8: a1.
        LogicalTimes y = twoTasks("0,1,4,8");
        Due.same("the first without a slot", y.check(0), 1003);
        slots(y, 0, 1, 8, -1, -1, -1);
        LogicalTimes z = twoTasks("0,1,2,3,4,5,6,7,8,9,10,11");
        Due.same("all slots", z.check(0), 0);
        slots(z, 0, 1, 7, 2, 6, 10);
    }

    private static void doneAtTheSlot() {
        Due.sentence("whose task is done at the slot's tick (by the end of the tick before) or earlier");
        String text = "port p=0;mode M 8{task a 1 on 0{x=1;x=2;p=3;}task b 1 on 1{x=p;}slots ";
        Due.same("done by the end of the tick before", Due.program(text + "3;}").check(0), 0);
        Due.same("at its tick", Due.program(text + "3;}").slot(0, 0), 3);
        Due.same("done in the slot's tick", Due.program(text + "2;}").check(0), 1001);
        Due.same("has none", Due.program(text + "2;}").slot(0, 0), -1);
        Due.same("earlier", Due.program(text + "6;}").slot(0, 0), 6);
        Due.same("none at tick 0", Due.program("port p=0;mode M 8{task a 8 on 0{p=3;}task b 1 on 1{x=p;}slots 0;}").slot(0, 0), -1);
    }

    private static void endsBehindTheSlot() {
        Due.sentence("whose span ends behind that tick");
        String text = "port p=0;mode M 8{task a 2 on 0{p=3;}task b 1 on 1{x=p;}slots ";
        slots(Due.program(text + "3;}"), 0, 3, -1);
        slots(Due.program(text + "4;}"), 0, -1, -1);
        slots(Due.program(text + "5;}"), 0, -1, 5);
        slots(Due.program(text + "7;}"), 0, -1, 7);
        // A span of one tick is never done ahead of a tick in it.
        String one = "port p=0;mode M 3{task a 3 on 0{p=3;}task b 1 on 1{x=p;}slots 0,1,2;}";
        slots(Due.program(one), 0, -1, -1, -1);
        Due.same("all miss", Due.program(one).check(0), 1001);
    }

    private static void hasNoSlotYet() {
        Due.sentence("and that have no slot");
        LogicalTimes x = Due.program("port p=0;port q=0;mode M 8{task a 1 on 0{p=1;q=1;}task b 1 on 1{x=p+q;}slots 2,3,4,5;}");
        Due.same("check", x.check(0), 0);
        slots(x, 0, 2, 3);
    }

    private static void messageThatEndsFirst() {
        Due.sentence("the one whose span ends first");
        LogicalTimes x = twoTasks("1,2,3,7,10,11");
        // 1: a0. 2: b0. 3: none. 7: b1 ends at 8. 10: a1 and b2 end at 12, the lower number goes first. 11: b2.
        Due.same("check", x.check(0), 0);
        slots(x, 0, 1, 10, 2, 7, 11);
        LogicalTimes y = Due.program("port p=0;port q=0;mode M 8{task a 1 on 0{p=1;}task b 2 on 1{q=1;}task c 1 on 2{x=p+q;}slots 2;}");
        slots(y, 0, -1, 2, -1);
        Due.same("a's misses", y.check(0), 1001);
    }

    private static void lowestNumber() {
        Due.sentence("(of these the lowest number)");
        LogicalTimes x = Due.program("port q=0;port p=0;mode M 8{task a 1 on 0{p=1;}task b 1 on 1{q=1;}task c 1 on 2{x=p+q;}slots 2;}");
        slots(x, 0, 2, -1);
        Due.same("b's misses", x.check(0), 1002);
        LogicalTimes y = Due.program("port q=0;port p=0;mode M 8{task a 1 on 0{p=1;q=1;}task b 1 on 1{x=p+q;}slots 2;}");
        slots(y, 0, 2, -1);
        y.reset(0);
        y.tick(9);
        Due.same("q is the first port", y.port(1, 0), 1);
        Due.same("p has no slot", y.port(1, 1), 0);
    }

    private static void numbersOfMessages() {
        Due.sentence("they have numbers in the order of the tasks, for each in that of the spans, for each in that of the ports");
        // a is done at 2 and 8, b at 1 and ends at 12: b's one is sent first, and has the last number.
        LogicalTimes x = Due.program("port p=0;port q=0;port r=0;mode M 12{task a 2 on 0{q=1;p=1;}task b 1 on 1{r=1;}"
            + "task c 1 on 2{x=p+q+r;}slots 0,1,2,3,4,5,6,7,8,9,10,11;}");
        Due.same("check", x.check(0), 0);
        slots(x, 0, 2, 3, 8, 9, 1);
        // A port that isn't read elsewhere has none: q before r, however they are assigned.
        LogicalTimes y = Due.program("port p=0;port q=0;port r=0;mode M 8{task a 2 on 0{r=1;q=1;p=1;}"
            + "task b 1 on 1{x=q+r;}slots 3,5,7;}mode N 1{}");
        Due.same("check", y.check(0), 1002);
        slots(y, 0, 3, -1, 7, -1);
        slots(y, 1);
        // Each mode has its own from 0 on.
        LogicalTimes z = Due.program("port q=0;port r=0;mode N 4{task c 1 on 2{r=1;}slots 1;}mode M 10{task a 2 on 0{r=1;q=1;}"
            + "task b 1 on 1{x=q+r;}slots 2,3,4,7,9;}");
        Due.same("check(0)", z.check(0), 0);
        Due.same("check(1)", z.check(1), 0);
        slots(z, 0, 1);
        slots(z, 1, 2, 3, 7, 9);
    }

    private static void ifNoTaskMisses() {
        Due.sentence("If none does: along the slots ..");
        LogicalTimes x = Due.program("port p=0;mode M 8{task a 1 on 0{p=1;}task b 1 on 1{x=p;repeat 8{}}slots 2,3;}"
            + "mode N 8{task c 1 on 0{p=1;}slots 4;}");
        Due.same("a task misses", x.check(0), 2);
        slots(x, 0, -1);
        Due.same("the other's slack stays", x.slack(0), 7);
        Due.same("the other mode", x.check(1), 0);
        slots(x, 1, 4);
        // Also where the miss comes behind the slot.
        LogicalTimes y = Due.program("port p=0;mode M 8{task a 4 on 0{p=1;}task b 1 on 1{x=p;repeat 8{}}slots 1,3,5,7;}");
        slots(y, 0, -1, -1, -1, -1);
    }

    private static void checkIs0() {
        Due.sentence("Checks a mode: 0");
        Due.same("nothing in it", Due.program("mode A 1{}").check(0), 0);
        Due.same("slots alone", Due.program("mode A 3{slots 0,1,2;}").check(0), 0);
        Due.same("tasks without messages", Due.program("port p=0;mode A 3{task t 1 on 0{p=p;}}").check(0), 0);
        Due.same("the last mode", Due.program("mode A 1{}mode B 1{}mode C 1{}mode D 1{}").check(3), 0);
    }

    private static void checkTellsATask() {
        Due.sentence("1 and the number of the first task that misses (that of the span that ends first, of these the first one)");
        // In B, c (span 8) misses at 8, d and e (span 4) at 4: the first of these is told, by its number of all tasks.
        LogicalTimes x = Due.program("mode A 8{task a 1 on 0{}}mode B 8{task c 1 on 0{repeat 9{}}"
            + "task d 2 on 1{repeat 5{}}task e 2 on 2{repeat 5{}}}");
        Due.same("check(0)", x.check(0), 0);
        Due.same("check(1)", x.check(1), 1 + 2);
        Due.same("two at once", Due.program("mode A 8{task a 1 on 0{repeat 9{}}task b 1 on 1{repeat 9{}}}").check(0), 1);
        // b misses in its last span alone, at 8, where a misses too.
        LogicalTimes y = Due.program("mode A 8{task b 2 on 0{repeat 2{}}task a 1 on 0{repeat 5{}}}");
        Due.same("a alone", y.check(0), 2);
        LogicalTimes most = Due.program(Texts.most());
        for (int m = 0; m < 4; m++) {
            Due.same("check(" + m + ") of the most", most.check(m), 1 + 6 * m);
        }
        String five = Texts.row(5, t -> "task u" + t + " 1 on 0{}");
        String three = Texts.row(3, m -> "mode M" + m + " 1{" + Texts.row(6, t -> "task t" + m + t + " 1 on 0{}") + "}");
        LogicalTimes last = Due.program(three + "mode D 1{" + five + "task v 1 on 3{x=1;x=1;}}");
        Due.same("the last task of all", last.check(3), 1 + 23);
        Due.same("the mode ahead of it", last.check(2), 0);
    }

    private static String sixtySpans(int slots) {
        return "port p=0;mode A 120{task a 60 on 0{p=1;}task b 1 on 1{x=p;}slots "
            + Texts.row(slots, i -> (i == 0 ? "" : ",") + (2 * i + 1)) + ";}";
    }

    private static void checkTellsAMessage() {
        Due.sentence("1000 and the number of the first message of the mode that misses, from 1 on");
        String none = "port p=1;mode M 2{task a 1 on 0{p=1;}task b 1 on 1{x=p;}}";
        Due.same("the first", Due.program(none).check(0), 1001);
        Due.same("the second mode's first", Due.program("port p=1;mode L 2{task c 1 on 0{p=1;}slots 1;}"
            + none.substring(9)).check(1), 1001);
        Due.same("sixty have a slot", Due.program(sixtySpans(60)).check(0), 0);
        Due.same("the last one has none", Due.program(sixtySpans(59)).check(0), 1060);
        Due.same("the last two have none", Due.program(sixtySpans(58)).check(0), 1059);
        Due.same("a task ahead of a message", Due.program("port p=1;mode M 2{task a 1 on 0{p=1;}task b 1 on 1{x=p;repeat 2{}}}").check(0), 2);
    }

    private static void leastSlack() {
        Due.sentence("the least ticks that it is done ahead of a span's end, over all spans");
        LogicalTimes x = Due.program("mode A 6{task a 2 on 0{repeat 3{}}task b 1 on 1{}task c 6 on 2{x=1;}}mode B 1{}");
        Due.same("just in time", x.check(0), 0);
        slacks(x, 0, 6, 0);
        // b is done 5 and then, behind a, 1 tick ahead.
        slacks(Due.program("mode A 12{task a 1 on 0{repeat 9{}}task b 2 on 0{x=1;}}"), 2, 1);
        // a 0 1, b 2 3, a 4 5, b 6 7, a 8 9: b is done 2 and then 4 ticks ahead.
        slacks(Due.program("mode A 12{task a 3 on 0{repeat 2{}}task b 2 on 0{repeat 2{}}}"), 2, 2);
    }

    private static void slackOfAMiss() {
        Due.sentence("-1 if it misses one");
        LogicalTimes x = Due.program("mode A 4{task a 2 on 0{repeat 3{}}task b 1 on 1{x=1;}}");
        slacks(x, -1, 3);
        // b goes behind a in its last span: just in time, or a tick too late.
        LogicalTimes y = Due.program("mode A 9{task a 1 on 0{repeat 3{}}task b 3 on 0{repeat 2{}}}");
        Due.same("check", y.check(0), 0);
        slacks(y, 2, 0);
        LogicalTimes z = Due.program("mode A 9{task a 1 on 0{repeat 4{}}task b 3 on 0{repeat 2{}}}");
        Due.same("check", z.check(0), 2);
        slacks(z, 1, -1);
    }

    private static void slotsTick() {
        Due.sentence("The slot's tick of message i of mode m (from 0 on)");
        LogicalTimes x = Due.program(sixtySpans(60));
        for (int i = 0; i < 60; i++) {
            Due.same("slot(0, " + i + ")", x.slot(0, i), 2 * i + 1);
        }
        Due.same("the last tick", x.slot(0, 59), 119);
    }

    private static void slotOfNone() {
        Due.sentence("-1 if it has none, or a task misses");
        slots(Due.program("port p=1;mode M 2{task a 1 on 0{p=1;}task b 1 on 1{x=p;}}"), 0, -1);
        Due.same("the last of sixty", Due.program(sixtySpans(59)).slot(0, 59), -1);
        Due.same("the one ahead of it", Due.program(sixtySpans(59)).slot(0, 58), 117);
        LogicalTimes most = Due.program(Texts.most());
        Due.same("the first of the most", most.slot(3, 0), -1);
        Due.same("the last of the most", most.slot(3, 12 * 120 - 1), -1);
    }

    private static void noSuchMode() {
        Due.sentence("NoSuchElementException: there is no such mode (check, slot)");
        Class<NoSuchElementException> due = NoSuchElementException.class;
        LogicalTimes x = Due.program("port p=0;mode A 2{task a 1 on 0{p=1;}}mode B 2{task b 1 on 1{p=1;}}");
        LogicalTimes four = Due.program(Texts.most());
        Due.same("the last mode", x.check(1), 1001);
        Due.same("the last mode's message", x.slot(1, 0), -1);
        for (int m : new int[] {-1, 2, 3, 4, LEAST, MOST}) {
            Due.refused("check(" + m + ")", due, () -> x.check(m));
            Due.refused("slot(" + m + ", 0)", due, () -> x.slot(m, 0));
            Due.refused("slot(" + m + ", -1)", due, () -> x.slot(m, -1));
        }
        Due.refused("check(4) of four", due, () -> four.check(4));
        Due.refused("slot(4, 0) of four", due, () -> four.slot(4, 0));
        Due.refused("no program: check", due, () -> new LogicalTimes().check(0));
        Due.refused("no program: slot", due, () -> new LogicalTimes().slot(0, 0));
    }

    private static void noSuchTask() {
        Due.sentence("NoSuchElementException: there is no such task (slack)");
        Class<NoSuchElementException> due = NoSuchElementException.class;
        LogicalTimes x = Due.program("mode A 1{task a 1 on 0{}}mode B 7{task b 1 on 0{}}");
        LogicalTimes most = Due.program(Texts.most());
        Due.same("the last task", x.slack(1), 7);
        Due.same("the last task of the most", most.slack(23), -1);
        for (int t : new int[] {-1, 2, 24, LEAST, MOST}) {
            Due.refused("slack(" + t + ")", due, () -> x.slack(t));
        }
        Due.refused("slack(24) of the most", due, () -> most.slack(24));
        Due.refused("no task", due, () -> Due.program("mode A 1{}").slack(0));
        Due.refused("no program", due, () -> new LogicalTimes().slack(0));
    }

    private static void noSuchMessage() {
        Due.sentence("NoSuchElementException: there is no such .. message");
        Class<NoSuchElementException> due = NoSuchElementException.class;
        LogicalTimes x = Due.program(sixtySpans(60));
        LogicalTimes most = Due.program(Texts.most());
        Due.same("the last message", x.slot(0, 59), 119);
        for (int i : new int[] {-1, 60, 119, 1440, LEAST, MOST}) {
            Due.refused("slot(0, " + i + ")", due, () -> x.slot(0, i));
        }
        for (int i : new int[] {-1, 1440, LEAST, MOST}) {
            Due.refused("slot(0, " + i + ") of the most", due, () -> most.slot(0, i));
        }
        Due.refused("no message", due, () -> Due.program("mode A 1{slots 0;}").slot(0, 0));
        LogicalTimes y = Due.program("port p=0;mode A 2{task a 1 on 0{p=1;}}mode B 2{task b 1 on 1{x=p;}}");
        Due.same("the mode that has one", y.slot(0, 0), -1);
        Due.refused("the mode that has none", due, () -> y.slot(1, 0));
    }

    private static void askedAgain() {
        Due.sentence("Checks a mode: whatever runs");
        LogicalTimes x = twoTasks("1,2,3,7,10,11");
        x.reset(0);
        x.takes(0, 0);
        for (int n = 0; n < 5; n++) {
            Due.same("check", x.check(0), 0);
            slacks(x, 5, 2);
            slots(x, 0, 1, 10, 2, 7, 11);
            x.tick(3);
        }
    }
}
