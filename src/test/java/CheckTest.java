import java.util.NoSuchElementException;

/** Promises 7 to 9: check, slack and slot. */
public final class CheckTest {
    public static void main(String[] args) {
        firstMiss();
        spansThatEndFirstRunFirst();
        slacks();
        slotsByEnd();
        slotsOfSeveralPorts();
        slotsAreLostWithAMiss();
        doneAtTheSlot();
        wrongCalls();
        Due.close();
    }

    private static void slacks(LogicalTimes x, int... due) {
        for (int t = 0; t < due.length; t++) {
            Due.same("slack(" + t + ")", x.slack(t), due[t]);
        }
    }

    private static void slots(LogicalTimes x, int m, int... due) {
        for (int i = 0; i < due.length; i++) {
            Due.same("slot(" + m + ", " + i + ")", x.slot(m, i), due[i]);
        }
        Due.refused("slot behind the last", NoSuchElementException.class, () -> x.slot(m, due.length));
    }

    private static void firstMiss() {
        // In B, c (span 8) misses at 8, d and e (span 4) at 4: the first of these is told, by its number of all tasks.
        LogicalTimes x = Due.program("mode A 8{task a 1 on 0{}}mode B 8{task c 1 on 0{repeat 9{}}"
            + "task d 2 on 1{repeat 5{}}task e 2 on 2{repeat 5{}}}");
        Due.same("check(0)", x.check(0), 0);
        Due.same("check(1)", x.check(1), 1 + 2);
        slacks(x, 8, -1, -1, -1);
        LogicalTimes y = Due.program("mode A 8{task a 1 on 0{repeat 9{}}task b 1 on 1{repeat 9{}}}");
        Due.same("two at once: the first task", y.check(0), 1);
    }

    private static void spansThatEndFirstRunFirst() {
        // a (span 12, 5 ticks) waits for b (span 4, 2 ticks): b 0 1, a 2 3, b 4 5, a 6 7, then a ties with b: a 8, b 9 10.
        LogicalTimes x = Due.program("mode A 12{task a 1 on 0{repeat 5{}}task b 3 on 0{repeat 2{}}}");
        Due.same("check", x.check(0), 0);
        slacks(x, 3, 1);
        // The other way round b goes first in the tie: b 8 9, a 10.
        LogicalTimes y = Due.program("mode A 12{task b 3 on 0{repeat 2{}}task a 1 on 0{repeat 5{}}}");
        slacks(y, 2, 1);
        // On nodes of their own neither waits.
        LogicalTimes z = Due.program("mode A 12{task a 1 on 1{repeat 5{}}task b 3 on 0{repeat 2{}}}");
        slacks(z, 7, 2);
    }

    private static void slacks() {
        LogicalTimes x = Due.program("mode A 6{task a 2 on 0{repeat 3{}}task b 1 on 1{}task c 6 on 2{x=1;}}mode B 1{}");
        Due.same("just in time", x.check(0), 0);
        slacks(x, 0, 6, 0);
        Due.same("a mode without tasks", x.check(1), 0);
        // A missed run is dropped: the next one has its whole span, but one miss is enough.
        LogicalTimes y = Due.program("mode A 4{task a 2 on 0{repeat 3{}}task b 1 on 1{x=1;}}");
        Due.same("too long", y.check(0), 1);
        slacks(y, -1, 3);
        // a is dropped at 4 and at 8, so that b, which goes first when both end at 12, waits until 8.
        LogicalTimes z = Due.program("mode A 12{task b 1 on 0{x=1;}task a 3 on 0{repeat 5{}}}");
        Due.same("a dropped run", z.check(0), 2);
        slacks(z, 3, -1);
    }

    private static void slotsByEnd() {
        // Done: a at 1 (ends 6) and 7 (ends 12); b at 2 (4), 6 (8) and 10 (12).
        String text = "port p=1;port q=0;mode M 12{task a 2 on 0{p=q;}task b 3 on 1{x=p*2;q=x-1;}slots ";
        LogicalTimes x = Due.program(text + "2,5,6,9,11;}");
        Due.same("check", x.check(0), 0);
        slots(x, 0, 5, 9, 2, 6, 11);
        LogicalTimes y = Due.program(text + "1,2,3,7,10,11;}");
        // 1: a0. 2: b0. 3: none. 7: b1 ends at 8. 10: a1 and b2 end at 12, the lower number goes first. 11: b2.
        Due.same("check", y.check(0), 0);
        slots(y, 0, 1, 10, 2, 7, 11);
        LogicalTimes z = Due.program(text + "0,1,4,8;}");
        // 0: none is done. 1: a0. 4: b0's span has ended. 8: a1.
        Due.same("the first without a slot", z.check(0), 1003);
        slots(z, 0, 1, 8, -1, -1, -1);
        LogicalTimes none = Due.program("port p=1;mode M 2{task a 1 on 0{p=1;}task b 1 on 1{x=p;}}");
        Due.same("no slots", none.check(0), 1001);
        slots(none, 0, -1);
    }

    private static void slotsOfSeveralPorts() {
        // Numbers go by task, span and port: q before r, however they are assigned.
        LogicalTimes x = Due.program("port p=0;port q=0;port r=0;mode M 8{task a 2 on 0{r=1;q=1;p=1;}"
            + "task b 1 on 1{x=q+r;}slots 3,5,7;}mode N 1{}");
        Due.same("messages", x.count(4), 4);
        Due.same("check", x.check(0), 1002);
        slots(x, 0, 3, -1, 7, -1);
        slots(x, 1);
        LogicalTimes y = Due.program("port q=0;port r=0;mode N 1{}mode M 10{task a 2 on 0{r=1;q=1;}"
            + "task b 1 on 1{x=q+r;}slots 2,3,4,7,9;}");
        Due.same("check", y.check(1), 0);
        slots(y, 1, 2, 3, 7, 9);
    }

    private static void slotsAreLostWithAMiss() {
        LogicalTimes x = Due.program("port p=0;mode M 8{task a 1 on 0{p=1;}task b 1 on 1{x=p;repeat 8{}}slots 2,3;}");
        Due.same("a task misses", x.check(0), 2);
        slots(x, 0, -1);
        Due.same("the other's slack stays", x.slack(0), 7);
    }

    private static void doneAtTheSlot() {
        String text = "port p=0;mode M 8{task a 1 on 0{x=1;x=2;p=3;}task b 1 on 1{x=p;}slots ";
        Due.same("done by the end of the tick before", Due.program(text + "3;}").check(0), 0);
        Due.same("done in the slot's tick", Due.program(text + "2;}").check(0), 1001);
        Due.same("the last tick of the span", Due.program(text + "7;}").slot(0, 0), 7);
    }

    private static void wrongCalls() {
        LogicalTimes x = Due.program("mode A 1{task t 1 on 0{}}");
        Due.refused("check(1)", NoSuchElementException.class, () -> x.check(1));
        Due.refused("check(-1)", NoSuchElementException.class, () -> x.check(-1));
        Due.refused("slack(1)", NoSuchElementException.class, () -> x.slack(1));
        Due.refused("slack(-1)", NoSuchElementException.class, () -> x.slack(-1));
        Due.refused("slot(0, 0)", NoSuchElementException.class, () -> x.slot(0, 0));
        Due.refused("slot(0, -1)", NoSuchElementException.class, () -> x.slot(0, -1));
        Due.refused("slot(1, 0)", NoSuchElementException.class, () -> x.slot(1, 0));
        Due.refused("slot(-1, 0)", NoSuchElementException.class, () -> x.slot(-1, 0));
        LogicalTimes y = new LogicalTimes();
        Due.refused("no program: check", NoSuchElementException.class, () -> y.check(0));
        Due.refused("no program: slack", NoSuchElementException.class, () -> y.slack(0));
        Due.refused("no program: slot", NoSuchElementException.class, () -> y.slot(0, 0));
    }
}
