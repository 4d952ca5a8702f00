import java.util.NoSuchElementException;

/** Promises 1 to 3, sentence by sentence: a new object, feed and end, with the tape and the text. */
public final class TapeTest {
    private static final int BLANKS = 0x20202020;
    private static final int LEAST = Integer.MIN_VALUE;
    private static final int MOST = Integer.MAX_VALUE;

    public static void main(String[] args) {
        newObject();
        newObjectRunsNothing();
        twentyBytes();
        highestFirst();
        behindTheTape();
        tapeHolds3000();
        fullTapeStays();
        programOf3000();
        endCutsTheTape();
        tapeIsEmptyThen();
        textIsReplaced();
        tooManyBytes();
        belowZero();
        refusedEndChangesNothing();
        Due.close();
    }

    private static boolean feedBlanks(LogicalTimes x) {
        return x.feed(BLANKS, BLANKS, BLANKS, BLANKS, BLANKS);
    }

    private static void newObject() {
        Due.sentence("A new object: No text, no program.");
        LogicalTimes x = new LogicalTimes();
        for (int what = 0; what <= 4; what++) {
            Due.same("new: count(" + what + ")", x.count(what), 0);
        }
        Due.refused("new: task(0, 0)", NoSuchElementException.class, () -> x.task(0, 0));
        Due.refused("new: check(0)", NoSuchElementException.class, () -> x.check(0));
        Due.refused("new: slack(0)", NoSuchElementException.class, () -> x.slack(0));
        Due.refused("new: slot(0, 0)", NoSuchElementException.class, () -> x.slot(0, 0));
        Due.refused("new: reset(0)", NoSuchElementException.class, () -> x.reset(0));
        Due.same("new: the text ends at its beginning", x.compile(), 1);
        Due.holds("new: the tape has none", !new LogicalTimes().end(1));
        Due.holds("new: the tape has no more than none", new LogicalTimes().end(0));
    }

    private static void newObjectRunsNothing() {
        Due.sentence("A new object: nothing runs.");
        LogicalTimes x = new LogicalTimes();
        Due.refused("new: takes", IllegalStateException.class, () -> x.takes(0, 0));
        Due.refused("new: sensor", IllegalStateException.class, () -> x.sensor(0, 0));
        Due.refused("new: tick", IllegalStateException.class, () -> x.tick(1));
        Due.refused("new: port", IllegalStateException.class, () -> x.port(0, 0));
        Due.refused("new: denoted", IllegalStateException.class, () -> x.denoted(0));
        Due.refused("new: state", IllegalStateException.class, () -> x.state(0));
        Due.refused("new: running", IllegalStateException.class, () -> x.running(0));
    }

    private static void twentyBytes() {
        Due.sentence("Twenty bytes behind the tape");
        for (int feeds = 0; feeds < 5; feeds++) {
            LogicalTimes x = new LogicalTimes();
            for (int i = 0; i < feeds; i++) {
                Due.holds("feed", feedBlanks(x));
            }
            Due.holds("one byte more than " + feeds + " feeds", !x.end(20 * feeds + 1));
            Due.holds("the bytes of " + feeds + " feeds", x.end(20 * feeds));
            Due.same("the text's end", x.compile(), 1 + 20 * feeds);
        }
    }

    private static void highestFirst() {
        Due.sentence("of each int the highest first");
        // In twenty blanks one byte that begins no token: its place is told.
        for (int b : new int[] {0, 1, 127, 128, 255}) {
            for (int place = 0; place < 20; place++) {
                int[] ints = {BLANKS, BLANKS, BLANKS, BLANKS, BLANKS};
                int shift = 24 - 8 * (place % 4);
                ints[place / 4] = ints[place / 4] & ~(255 << shift) | b << shift;
                LogicalTimes x = new LogicalTimes();
                Due.holds("feed", x.feed(ints[0], ints[1], ints[2], ints[3], ints[4]));
                Due.holds("end", x.end(20));
                Due.same("byte " + b + " at " + place, x.compile(), 1 + place);
            }
        }
        LogicalTimes x = new LogicalTimes();
        // "mode", " A 5", "{}", blanks.
        Due.holds("feed", x.feed(0x6d6f6465, 0x20412035, 0x7b7d2020, BLANKS, BLANKS));
        Due.holds("end", x.end(20));
        Due.same("twenty bytes that are a program", x.compile(), 0);
    }

    private static void behindTheTape() {
        Due.sentence("feed() puts twenty behind it");
        LogicalTimes x = new LogicalTimes();
        feedBlanks(x);
        x.feed(BLANKS, BLANKS, BLANKS, BLANKS, 0x20202000);
        feedBlanks(x);
        x.end(60);
        Due.same("the last byte of the second feed", x.compile(), 40);
    }

    private static LogicalTimes full() {
        LogicalTimes x = new LogicalTimes();
        Due.feed(x, "mode A 5{}" + " ".repeat(2990));
        return x;
    }

    private static void tapeHolds3000() {
        Due.sentence("false if there are 3000");
        LogicalTimes x = new LogicalTimes();
        for (int i = 0; i < 149; i++) {
            Due.holds("feed " + i, feedBlanks(x));
        }
        Due.holds("2981 are too many behind 149 feeds", !x.end(2981));
        Due.holds("the last feed", feedBlanks(x));
        Due.holds("one feed more", !feedBlanks(x));
        Due.holds("and again", !feedBlanks(x));
        Due.holds("3001 bytes", !x.end(3001));
        Due.holds("3000 bytes", x.end(3000));
        Due.same("3000 blanks end too soon", x.compile(), 3001);
    }

    private static void fullTapeStays() {
        Due.sentence("false if there are 3000 (nothing is put)");
        LogicalTimes x = full();
        Due.holds("one feed more", !x.feed(0, 0, 0, 0, 0));
        Due.holds("3001 bytes", !x.end(3001));
        Due.holds("3000 bytes", x.end(3000));
        Due.same("the bytes are those of the feeds that were taken", x.compile(), 0);
        Due.holds("the tape is empty, so one may be fed", feedBlanks(x));
        Due.holds("these twenty", !x.end(21));
        Due.holds("these twenty", x.end(20));
        LogicalTimes y = full();
        Due.holds("one feed more", !y.feed(-1, -1, -1, -1, -1));
        Due.holds("ten bytes", y.end(10));
        Due.same("nothing is put ahead either", y.compile(), 0);
    }

    private static void programOf3000() {
        Due.sentence("THE TAPE has at most 3000 bytes");
        LogicalTimes x = new LogicalTimes();
        Due.same("a program at the very end", Due.compiled(x, " ".repeat(2990) + "mode A 5{}"), 0);
        Due.same("a fault in the last byte", Due.compiled(x, "mode A 5{}" + " ".repeat(2989) + "x"), 3000);
        Due.same("it ends too soon at the last byte", Due.compiled(x, " ".repeat(2991) + "mode A 5{"), 3001);
    }

    private static void endCutsTheTape() {
        Due.sentence("The text becomes the first n bytes of the tape");
        String text = "mode A 5{}mode B 6{}";
        int[] due = {1, 1, 1, 1, 5, 6, 7, 8, 9, 10, 0, 11, 11, 11, 15, 16, 17, 18, 19, 20, 0};
        for (int n = 0; n <= 20; n++) {
            LogicalTimes x = new LogicalTimes();
            Due.feed(x, text);
            Due.holds("end(" + n + ")", x.end(n));
            Due.same("compile of the first " + n, x.compile(), due[n]);
            Due.same("modes of the first " + n, x.count(2), n == 20 ? 2 : n == 10 ? 1 : 0);
        }
    }

    private static void tapeIsEmptyThen() {
        Due.sentence("of the tape, which is empty then");
        LogicalTimes x = new LogicalTimes();
        Due.feed(x, "mode A 5{}");
        Due.holds("end(9)", x.end(9));
        Due.holds("the rest is gone", !x.end(1));
        Due.holds("none is left", x.end(0));
        Due.feed(x, "mode A 5{}");
        Due.holds("end(0)", x.end(0));
        Due.holds("none is left behind end(0)", !x.end(1));
        Due.feed(x, "mode B 5{}");
        Due.holds("new bytes stand at the beginning", x.end(10));
        Due.same("compile", x.compile(), 0);
    }

    private static void textIsReplaced() {
        Due.sentence("The text becomes");
        LogicalTimes x = new LogicalTimes();
        Due.give(x, "mode A 5{}mode B 5{}");
        Due.give(x, "mode A 5{}");
        Due.feed(x, "_");
        Due.same("the later text alone, whatever is on the tape", x.compile(), 0);
        Due.same("its modes", x.count(2), 1);
        Due.give(x, "mode A 5{}");
        Due.holds("end(0)", x.end(0));
        Due.same("an empty text", x.compile(), 1);
        Due.feed(x, "mode A 5{}");
        x.compile();
        Due.holds("compile leaves the tape", x.end(10));
        Due.same("which becomes the text", x.compile(), 0);
    }

    private static void tooManyBytes() {
        Due.sentence("false if it hasn't so many");
        LogicalTimes x = new LogicalTimes();
        Due.holds("one of none", !x.end(1));
        feedBlanks(x);
        for (int n : new int[] {21, 40, 3000, 3001, MOST}) {
            Due.holds("end(" + n + ")", !x.end(n));
        }
        Due.holds("end(20)", x.end(20));
    }

    private static void belowZero() {
        Due.sentence("false if n is below 0");
        LogicalTimes x = new LogicalTimes();
        Due.holds("end(-1) of none", !x.end(-1));
        feedBlanks(x);
        for (int n : new int[] {-1, -20, -3000, LEAST}) {
            Due.holds("end(" + n + ")", !x.end(n));
        }
        Due.holds("end(0)", x.end(0));
    }

    private static void refusedEndChangesNothing() {
        Due.sentence("(then nothing changes)");
        for (int n : new int[] {21, 3001, MOST, -1, LEAST}) {
            LogicalTimes x = Due.run("port p=3;mode M 4{task t 2 on 0{p=p+1;}}");
            x.tick(3);
            Due.give(x, "mode A 5{}");
            Due.feed(x, "mode A 5{}mode B 5{}");
            String ahead = Face.answers(x);
            Due.holds("end(" + n + ")", !x.end(n));
            Due.same("the program and its run", Face.answers(x), ahead);
            x.tick(2);
            Due.same("the run goes on", x.denoted(0), 5);
            Due.same("the text stays", x.compile(), 0);
            Due.same("the text's modes", x.count(2), 1);
            Due.holds("the tape has no more", !x.end(21));
            Due.holds("the tape stays", x.end(20));
            Due.same("its bytes stay", x.compile(), 0);
            Due.same("its modes", x.count(2), 2);
        }
    }
}
