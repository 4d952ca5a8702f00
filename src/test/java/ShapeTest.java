import java.util.NoSuchElementException;

/** Promises 5 and 6: count and task. */
public final class ShapeTest {
    private static final String TEXT = "port p=1;port q=2;port r=3;sensor s;sensor u;"
        + "mode A 12{task a 2 on 0{x=s;y=x;p=y;p=1;q=2;}task b 12 on 3{r=p;}}"
        + "mode B 7{task c 7 on 1{if s{repeat 3{z=q;}}else{z=1;z=2;}}task d 1 on 2{}}mode C 1{}";

    public static void main(String[] args) {
        counts();
        tasks();
        worsts();
        messages();
        Due.close();
    }

    private static void counts() {
        LogicalTimes x = Due.program(TEXT);
        int[] due = {3, 2, 3, 4};
        for (int what = 0; what < due.length; what++) {
            Due.same("count(" + what + ")", x.count(what), due[what]);
        }
        // p of both spans of a for b, q of both for c; r of each span of b isn't read elsewhere.
        Due.same("count(4)", x.count(4), 4);
        Due.same("count(5)", x.count(5), -1);
        Due.same("count(-1)", x.count(-1), -1);
        Due.same("count of the least int", x.count(Integer.MIN_VALUE), -1);
        Due.same("without a program count(5)", new LogicalTimes().count(5), -1);
    }

    private static void tasks() {
        LogicalTimes x = Due.program(TEXT);
        int[][] due = {{0, 0, 6, 5, 2, 2}, {0, 3, 1, 1, 0, 1}, {1, 1, 1, 7, 1, 0}, {1, 2, 7, 0, 0, 0}};
        for (int t = 0; t < due.length; t++) {
            for (int what = 0; what < 6; what++) {
                Due.same("task(" + t + ", " + what + ")", x.task(t, what), due[t][what]);
            }
        }
        Due.refused("task(4, 0)", NoSuchElementException.class, () -> x.task(4, 0));
        Due.refused("task(-1, 0)", NoSuchElementException.class, () -> x.task(-1, 0));
        Due.refused("task(0, 6)", NoSuchElementException.class, () -> x.task(0, 6));
        Due.refused("task(0, -1)", NoSuchElementException.class, () -> x.task(0, -1));
    }

    private static void worst(String statements, int due) {
        LogicalTimes x = Due.program("port p=0;mode A 1{task t 1 on 0{" + statements + "}}");
        Due.same("worst of " + statements, x.task(0, 3), due);
    }

    private static void worsts() {
        worst("", 0);
        worst("p=1;p=2;", 2);
        worst("if p{}", 1);
        worst("if p{p=1;p=2;}", 3);
        worst("if p{p=1;}else{p=1;p=2;p=3;}", 4);
        worst("if p{p=1;p=2;p=3;}else{p=1;}", 4);
        worst("repeat 9{}", 9);
        worst("repeat 3{p=1;if p{p=2;}}", 12);
        worst("repeat 2{repeat 3{p=1;}}", 14);
        worst("repeat 9{repeat 7{x=1;x=2;}}x=1;x=1;", 200);
    }

    private static void messages(String what, String text, int due) {
        Due.same("messages: " + what, Due.program(text).count(4), due);
    }

    private static void messages() {
        String head = "port p=0;port q=0;mode A 6{task a 3 on 0{p=1;q=2;}";
        messages("read nowhere", head + "}", 0);
        messages("read on the same node", head + "task b 1 on 0{x=p;}}", 0);
        messages("read by its own task alone", "port p=0;mode A 6{task a 3 on 0{p=p;}task b 1 on 1{}}", 0);
        messages("in an E of another node", head + "task b 1 on 1{x=p;}}", 3);
        messages("in the E of an if", head + "task b 1 on 1{if 1<q{}}}", 3);
        messages("once for several nodes", head + "task b 1 on 1{x=p;}task c 1 on 2{x=p;}}", 3);
        messages("both ports", head + "task b 1 on 1{x=p*q;}}", 6);
        messages("in a task of another mode", head + "}mode B 1{task b 1 on 1{x=p;}}", 3);
        messages("assigned in another mode", head + "}mode B 2{task b 2 on 1{p=1;}}", 5);
        messages("in a switch alone", head + "switch 1 if p to A;}", 0);
    }
}
