import java.util.NoSuchElementException;

/** Promises 1 to 3: a new object, feed and end; and of promise 4 that the text is empty behind compile. */
public final class TapeTest {
    public static void main(String[] args) {
        newObject();
        bytesStandHighestFirst();
        tapeHolds3000();
        endCuts();
        endRefuses();
        compileEmptiesTheText();
        Due.close();
    }

    private static void newObject() {
        LogicalTimes x = new LogicalTimes();
        for (int what = 0; what <= 4; what++) {
            Due.same("new: count(" + what + ")", x.count(what), 0);
        }
        Due.refused("new: reset(0)", NoSuchElementException.class, () -> x.reset(0));
        Due.refused("new: task(0, 0)", NoSuchElementException.class, () -> x.task(0, 0));
        Due.refused("new: state(0)", IllegalStateException.class, () -> x.state(0));
        Due.holds("new: end(0)", x.end(0));
        Due.holds("new: end(1) is false", !x.end(1));
        Due.same("new: compile()", x.compile(), 1);
    }

    private static void bytesStandHighestFirst() {
        LogicalTimes x = new LogicalTimes();
        // "mode", " A 5", "{}", with zeros behind, which begin no token.
        Due.holds("feed", x.feed(0x6d6f6465, 0x20412035, 0x7b7d0000, 0, 0));
        Due.holds("end(20)", x.end(20));
        Due.same("zeros stand behind the mode", x.compile(), 11);
        x.feed(0x6d6f6465, 0x20412035, 0x7b7dffff, -1, -1);
        Due.holds("end(10)", x.end(10));
        Due.same("ten bytes are a program", x.compile(), 0);
    }

    private static void tapeHolds3000() {
        LogicalTimes x = new LogicalTimes();
        for (int i = 0; i < 150; i++) {
            Due.holds("feed " + i, x.feed(0x20202020, 0x20202020, 0x20202020, 0x20202020, 0x20202020));
        }
        Due.holds("feed behind 3000 is false", !x.feed(0, 0, 0, 0, 0));
        Due.holds("end(3001) is false", !x.end(3001));
        Due.holds("end(3000)", x.end(3000));
        Due.same("3000 blanks end too soon", x.compile(), 3001);
        Due.holds("feed goes on behind end", x.feed(0, 0, 0, 0, 0));

        LogicalTimes y = new LogicalTimes();
        Due.same("a program of 3000 bytes", Due.compiled(y, " ".repeat(2990) + "mode A 5{}"), 0);
        Due.same("another one", Due.compiled(y, "mode A 5{}" + " ".repeat(2990)), 0);
        Due.same("one whose last byte is wrong", Due.compiled(y, "mode A 5{}" + " ".repeat(2989) + "x"), 3000);
    }

    private static void endCuts() {
        LogicalTimes x = new LogicalTimes();
        x.feed(0x6d6f6465, 0x20412035, 0x7b7d2020, 0x20202020, 0x20202020);
        Due.holds("end(9)", x.end(9));
        Due.same("the text is cut", x.compile(), 10);
        Due.holds("the tape is empty then", !x.end(1));
        x.feed(0x6d6f6465, 0x20412035, 0x7b7d2020, 0x20202020, 0x20202020);
        x.end(10);
        Due.holds("end(0) takes the text away", x.end(0));
        Due.same("no text", x.compile(), 1);
    }

    private static void endRefuses() {
        LogicalTimes x = new LogicalTimes();
        x.feed(0x6d6f6465, 0x20412035, 0x7b7d2020, 0x20202020, 0x20202020);
        x.end(10);
        x.feed(0x6d6f6465, 0x20412035, 0x7b7d2020, 0x20202020, 0x20202020);
        Due.holds("end(21) is false", !x.end(21));
        Due.holds("end(-1) is false", !x.end(-1));
        Due.holds("end of the least int is false", !x.end(Integer.MIN_VALUE));
        Due.same("the text stays", x.compile(), 0);
        Due.holds("the tape stays", x.end(20));
        Due.same("and becomes the text", x.compile(), 0);
    }

    private static void compileEmptiesTheText() {
        LogicalTimes x = Due.program("mode A 5{}");
        Due.same("count(2)", x.count(2), 1);
        Due.same("compile again", x.compile(), 1);
        Due.same("the program is gone", x.count(2), 0);
    }
}
