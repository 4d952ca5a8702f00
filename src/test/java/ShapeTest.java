import java.util.NoSuchElementException;

/** Promises 5 and 6, sentence by sentence: count and task, with the worst of a task and the messages of a mode. */
public final class ShapeTest {
    private static final int LEAST = Integer.MIN_VALUE;
    private static final int MOST = Integer.MAX_VALUE;
    private static final String TEXT = "port p=1;port q=2;port r=3;sensor s;sensor u;"
        + "mode A 12{task a 2 on 0{x=s;y=x;p=y;p=1;q=2;}task b 12 on 3{r=p;}}"
        + "mode B 7{task c 7 on 1{if s{repeat 3{z=q;}}else{z=1;z=2;}}task d 1 on 2{}}mode C 1{}";

    public static void main(String[] args) {
        counts();
        countsOfNothing();
        countsOfAnother();
        tasks();
        tasksAtTheirEdges();
        noSuchTask();
        noSuchWhat();
        worstOfAssignments();
        worstOfIfs();
        worstOfRepeats();
        worstIsThatOfTheLongestWay();
        messagesOfTasksAndSpans();
        messagesOfPorts();
        messagesReadOnAnotherNode();
        messagesReadInAnyMode();
        messagesAssignedOnAnotherNode();
        Due.close();
    }

    private static void count(LogicalTimes x, int... due) {
        for (int what = 0; what < due.length; what++) {
            Due.same("count(" + what + ")", x.count(what), due[what]);
        }
    }

    private static void counts() {
        Due.sentence("How many ports (what 0), sensors (1), modes (2), tasks (3), messages of all modes (4) the program has");
        // p of both spans of a for b, q of both for c; r of each span of b isn't read elsewhere.
        count(Due.program(TEXT), 3, 2, 3, 4, 4);
        count(Due.program("mode A 1{}"), 0, 0, 1, 0, 0);
        count(Due.program(Texts.most()), 12, 4, 4, 24, 4 * 12 * 120);
        LogicalTimes x = Due.run(TEXT);
        x.tick(9);
        count(x, 3, 2, 3, 4, 4);
    }

    private static void countsOfNothing() {
        Due.sentence("(0 of each without a program)");
        count(new LogicalTimes(), 0, 0, 0, 0, 0);
        LogicalTimes x = new LogicalTimes();
        Due.give(x, TEXT);
        count(x, 0, 0, 0, 0, 0);
        LogicalTimes y = Due.program(TEXT);
        y.compile();
        count(y, 0, 0, 0, 0, 0);
        Due.compiled(y, TEXT + "_");
        count(y, 0, 0, 0, 0, 0);
    }

    private static void countsOfAnother() {
        Due.sentence("-1 for another what");
        for (LogicalTimes x : new LogicalTimes[] {new LogicalTimes(), Due.program(TEXT), Due.run(TEXT)}) {
            for (int what : new int[] {-1, 5, 6, LEAST, MOST}) {
                Due.same("count(" + what + ")", x.count(what), -1);
            }
        }
    }

    private static void task(LogicalTimes x, int t, int... due) {
        for (int what = 0; what < due.length; what++) {
            Due.same("task(" + t + ", " + what + ")", x.task(t, what), due[what]);
        }
    }

    private static void tasks() {
        Due.sentence("its mode (0), node (1), span (2), worst (3), local names (4), ports that it assigns (5)");
        LogicalTimes x = Due.program(TEXT);
        task(x, 0, 0, 0, 6, 5, 2, 2);
        task(x, 1, 0, 3, 1, 1, 0, 1);
        task(x, 2, 1, 1, 1, 7, 1, 0);
        task(x, 3, 1, 2, 7, 0, 0, 0);
    }

    private static void tasksAtTheirEdges() {
        Due.sentence("Of a task (in the order of the text)");
        LogicalTimes x = Due.program(Texts.most());
        task(x, 0, 0, 0, 1, 2, 0, 2);
        task(x, 23, 3, 3, 1, 2, 0, 2);
        // 18 assignments, 180 ticks that are repeated, and two assignments more.
        LogicalTimes y = Due.program(Texts.row(12, p -> "port p" + p + "=1;") + "mode A 1{}mode B 120{task a 1 on 3{"
            + Texts.row(12, p -> "p" + p + "=1;") + Texts.row(6, i -> "x" + i + "=1;")
            + "repeat 9{repeat 6{x0=1;x1=1;}x0=1;}p0=1;p11=1;}task b 120 on 0{}}");
        task(y, 0, 1, 3, 120, 200, 6, 12);
        task(y, 1, 1, 0, 1, 0, 0, 0);
    }

    private static void noSuchTask() {
        Due.sentence("NoSuchElementException: there is no such task ..");
        Class<NoSuchElementException> due = NoSuchElementException.class;
        LogicalTimes x = Due.program(TEXT);
        LogicalTimes most = Due.program(Texts.most());
        LogicalTimes none = Due.program("mode A 1{}");
        LogicalTimes faulty = new LogicalTimes();
        Due.compiled(faulty, TEXT + "_");
        Due.same("the last task", x.task(3, 0), 1);
        Due.same("the last task of the most", most.task(23, 0), 3);
        for (int what = 0; what <= 5; what++) {
            int asked = what;
            for (int t : new int[] {-1, 4, 24, LEAST, MOST}) {
                Due.refused("task(" + t + ", " + what + ")", due, () -> x.task(t, asked));
            }
            for (int t : new int[] {-1, 24, LEAST, MOST}) {
                Due.refused("task(" + t + ", " + what + ") of the most", due, () -> most.task(t, asked));
            }
            Due.refused("task(0, " + what + ") of none", due, () -> none.task(0, asked));
            Due.refused("task(0, " + what + ") of a new object", due, () -> new LogicalTimes().task(0, asked));
            Due.refused("task(0, " + what + ") behind a fault", due, () -> faulty.task(0, asked));
        }
    }

    private static void noSuchWhat() {
        Due.sentence("NoSuchElementException: there is no such .. what");
        LogicalTimes x = Due.program(TEXT);
        for (int t = -1; t <= 4; t++) {
            int asked = t;
            for (int what : new int[] {-1, 6, 7, LEAST, MOST}) {
                Due.refused("task(" + t + ", " + what + ")", NoSuchElementException.class, () -> x.task(asked, what));
            }
        }
    }

    private static void worst(String statements, int due) {
        Due.same("worst of " + statements, Due.program(Texts.inTask(statements)).task(0, 3), due);
    }

    private static void worstOfAssignments() {
        Due.sentence("WORST of a task: .. 1 for each assignment");
        worst("", 0);
        worst("p=1;", 1);
        worst("x=1;", 1);
        worst("p=1;p=2;x=1+2*3;", 3);
        worst("x=1;".repeat(150), 150);
    }

    private static void worstOfIfs() {
        Due.sentence("for each if (besides the longer one of what is in its braces; 0 without else)");
        worst("if p{}", 1);
        worst("if 0{}else{}", 1);
        worst("if p{p=1;}", 2);
        worst("if p{p=1;p=2;}", 3);
        worst("if p{p=1;}else{}", 2);
        worst("if p{}else{p=1;}", 2);
        worst("if p{p=1;}else{p=1;}", 2);
        worst("if p{p=1;}else{p=1;p=2;p=3;}", 4);
        worst("if p{p=1;p=2;p=3;}else{p=1;}", 4);
        worst("if p{if q{p=1;}}else{p=1;p=2;p=3;}", 4);
        worst("if p{if q{if s{p=1;}}}else{p=1;p=2;}", 4);
        worst("if p{}if q{}else{}", 2);
    }

    private static void worstOfRepeats() {
        Due.sentence("1 for each time something is repeated, besides that");
        worst("repeat 1{}", 1);
        worst("repeat 9{}", 9);
        worst("repeat 1{p=1;}", 2);
        worst("repeat 3{p=1;if p{p=2;}}", 12);
        worst("repeat 2{repeat 3{p=1;}}", 14);
        worst("repeat 1{repeat 1{repeat 1{repeat 1{repeat 1{p=1;}}}}}", 6);
        worst("repeat 3{if p{p=1;}else{repeat 2{p=1;p=2;}}}", 24);
    }

    private static void worstIsThatOfTheLongestWay() {
        Due.sentence("the ticks of its longest way");
        worst("repeat 9{repeat 7{x=1;x=2;}}x=1;x=1;", 200);
        // Both longer ones count, though no run may go along both.
        worst("if s{p=1;p=2;}else{}if s{}else{p=1;p=2;}", 6);
        worst("if 0{p=1;p=2;}", 3);
    }

    private static void messages(String what, String text, int due) {
        Due.same("messages: " + what, Due.program(text).count(4), due);
    }

    private static void messagesOfTasksAndSpans() {
        Due.sentence("MESSAGES of a mode: one for each task, each of its spans");
        String reader = "task r 1 on 3{x=p+q;}";
        messages("no task", "mode A 6{}", 0);
        messages("one span", "port p=0;port q=0;mode A 6{task a 1 on 0{p=1;}" + reader + "}", 1);
        messages("six spans", "port p=0;port q=0;mode A 6{task a 6 on 0{p=1;}" + reader + "}", 6);
        messages("120 spans", "port p=0;port q=0;mode A 120{task a 120 on 0{p=1;}" + reader + "}", 120);
        messages("two tasks", "port p=0;port q=0;mode A 6{task a 6 on 0{p=1;}task b 2 on 1{q=1;}" + reader + "}", 8);
        messages("two modes", "port p=0;port q=0;mode A 6{task a 6 on 0{p=1;}" + reader + "}mode B 4{task b 2 on 1{p=1;}}", 8);
    }

    private static void messagesOfPorts() {
        Due.sentence("each port that it assigns ..");
        String reader = "mode B 1{task r 1 on 3{" + Texts.row(12, p -> "x=p" + p + ";") + "}}";
        String head = Texts.row(12, p -> "port p" + p + "=1;");
        messages("none assigned", head + "mode A 2{task a 2 on 0{x=p0;}}" + reader, 0);
        messages("one assigned thrice", head + "mode A 2{task a 2 on 0{p3=1;p3=2;if p3{p3=3;}}}" + reader, 2);
        messages("one assigned on no way at all", head + "mode A 2{task a 2 on 0{if 0{p3=1;}}}" + reader, 2);
        messages("twelve", head + "mode A 2{task a 2 on 0{" + Texts.row(12, p -> "p" + p + "=1;") + "}}" + reader, 24);
    }

    private static void messagesReadOnAnotherNode() {
        Due.sentence(".. and that is read on another node: a task there .. has it in an E");
        String head = "port p=0;port q=0;mode A 6{task a 3 on 0{p=1;q=2;}";
        messages("read nowhere", head + "}", 0);
        messages("read on the same node", head + "task b 1 on 0{x=p;}}", 0);
        messages("read by its own task alone", "port p=0;mode A 6{task a 3 on 0{p=p;}task b 1 on 1{}}", 0);
        messages("in an E of another node", head + "task b 1 on 1{x=p;}}", 3);
        messages("in a part of an E", head + "task b 1 on 3{x=1-2*(3+-p);}}", 3);
        messages("in the E of an if", head + "task b 1 on 1{if 1<q{}}}", 3);
        messages("where no run comes along", head + "task b 1 on 1{if 0{x=p;}}}", 3);
        messages("once for several nodes", head + "task b 1 on 1{x=p;}task c 1 on 2{x=p;}}", 3);
        messages("on the same and on another", head + "task b 1 on 0{x=p;}task c 1 on 2{x=p;}}", 3);
        messages("both ports", head + "task b 1 on 1{x=p*q;}}", 6);
        messages("sensors and locals there alone", "sensor s;" + head + "task b 1 on 1{x=s;if x+s{y=x*2;}}}", 0);
        messages("in a switch alone", head + "switch 1 if p to A;}", 0);
        messages("in a switch of another mode", head + "}mode B 1{switch 1 if p+q to A;}", 0);
        messages("in a switch ahead of a task elsewhere", head + "switch 1 if p to A;}mode B 1{task b 1 on 1{}}", 0);
    }

    private static void messagesReadInAnyMode() {
        Due.sentence("a task there, of any mode");
        String a = "mode A 6{task a 3 on 0{p=1;q=2;}}";
        String b = "mode B 1{task b 1 on 1{x=p;}}";
        messages("of a later mode", "port p=0;port q=0;" + a + b, 3);
        messages("of an earlier mode", "port p=0;port q=0;" + b + a, 3);
        messages("on the same node of another mode", "port p=0;port q=0;" + a + "mode B 1{task b 1 on 0{x=p;}}", 0);
    }

    private static void messagesAssignedOnAnotherNode() {
        Due.sentence(".. or assigns it");
        String head = "port p=0;port q=0;mode A 6{task a 3 on 0{p=1;q=2;}}";
        messages("assigned on both nodes", head + "mode B 2{task b 2 on 1{p=1;}}", 5);
        messages("assigned on the same node", head + "mode B 2{task b 2 on 0{p=1;}}", 0);
        messages("the other one", head + "mode B 2{task b 2 on 1{q=1;q=2;}}", 5);
        messages("both", head + "mode B 2{task b 2 on 1{q=1;p=2;}}", 10);
    }
}
