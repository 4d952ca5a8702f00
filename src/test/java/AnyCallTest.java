import java.lang.management.ManagementFactory;
import java.util.NoSuchElementException;
import java.util.Random;

/** Any calls in any state: each throws nothing but what the document tells of it, and leaves next to no objects. */
public final class AnyCallTest {
    private static final String[] TEXTS = {
        "port p=1;port q=0;sensor s;mode M 12{task a 2 on 0{p=q+s;}task b 3 on 1{x=p*2;q=x-1;}"
            + "switch 1 if q>20 to N;slots 2,5,6,9,11;}mode N 6{task c 1 on 0{q=0-1;}}",
        "port p=0;mode M 10{task a 1 on 0{x=0;repeat 4{x=x+1;p=x;}}task b 5 on 0{if p>2{y=1;}else{}}}",
        "mode A 5{switch 5 if 1 to B;}mode B 4{switch 2 if 0-1 to A;}",
        "port p=9;sensor s;sensor u;mode A 120{task a 120 on 0{p=p*(s-u)/-(p%7);}task b 60 on 3{if p<s{x=p;}else{x=u;}}"
            + "switch 2 if s>u to A;slots 1,2,3,119;}",
        "port p=0;mode M 1{task t 1 on 2{repeat 1{repeat 1{repeat 1{repeat 1{repeat 1{p=" + "-".repeat(8) + "p;}}}}}}}",
    };
    private static final String BYTES = "{};,=+-*/%<>()0123456789abpqstux \n_\u00ff";
    private static final int[] EDGES = {Integer.MIN_VALUE, -1, 0, 1, 3, 4, 119, 120, 200, 201, Integer.MAX_VALUE};

    private static final Random RANDOM = new Random(20261115);
    private static boolean isRunning;

    public static void main(String[] args) {
        for (int i = 0; i < 3000; i++) {
            LogicalTimes x = new LogicalTimes();
            isRunning = false;
            for (int text = 0; text < 2; text++) {
                Due.give(x, someText());
                for (int n = 0; n < 40; n++) {
                    call(x, RANDOM.nextInt(18));
                }
            }
        }
        fullTexts();
        roomOfCalls();
        Due.close();
    }

    private static String someText() {
        StringBuilder text = new StringBuilder(TEXTS[RANDOM.nextInt(TEXTS.length)]);
        for (int n = RANDOM.nextInt(4); n > 0; n--) {
            int at = RANDOM.nextInt(text.length());
            char some = BYTES.charAt(RANDOM.nextInt(BYTES.length()));
            switch (RANDOM.nextInt(5)) {
                case 0 -> text.replace(at, at + 1, "  ");
                case 1 -> text.insert(at, some);
                case 2 -> text.setCharAt(at, some);
                case 3 -> text.insert(at, text.substring(at / 2, at));
                default -> text.setLength(at + 1);
            }
        }
        return text.toString();
    }

    private static int some() {
        return RANDOM.nextInt(4) == 0 ? EDGES[RANDOM.nextInt(EDGES.length)] : RANDOM.nextInt(5);
    }

    private static void call(LogicalTimes x, int which) {
        int a = some();
        int b = some();
        try {
            switch (which) {
                case 0 -> x.feed(a, b, a, b, a);
                case 1 -> x.end(a);
                case 2, 3 -> {
                    int place = x.compile();
                    isRunning = false;
                    Due.holds("a place in the text", place >= 0 && place <= 3001);
                    Due.holds("a program or none", place == 0 == x.count(2) > 0);
                }
                case 4 -> x.count(a);
                case 5 -> x.task(a, b);
                case 6 -> x.check(a);
                case 7 -> x.slack(a);
                case 8 -> x.slot(a, b);
                case 9 -> {
                    x.reset(a);
                    isRunning = true;
                }
                case 10 -> x.takes(a, b);
                case 11 -> x.sensor(a, b);
                case 12, 13 -> x.tick(a);
                case 14 -> x.port(a, b);
                case 15 -> x.denoted(a);
                case 16 -> x.state(a);
                default -> x.running(a);
            }
            Due.holds("call " + which + " runs", which < 10 || isRunning);
        } catch (NoSuchElementException e) {
            Due.holds("call " + which + " may miss an element", which >= 5 && which != 12 && which != 13);
        } catch (IllegalStateException e) {
            Due.holds("call " + which + " needs that it runs", which >= 10 && !isRunning);
        } catch (IllegalArgumentException e) {
            Due.holds("call " + which + " may be told a wrong number", which == 10 || which == 12 || which == 13);
        }
    }

    /** Texts of 3000 bytes that are all tokens, and the most that a program may have of everything. */
    private static void fullTexts() {
        for (int i = 0; i < BYTES.length(); i++) {
            Due.compiled(new LogicalTimes(), String.valueOf(BYTES.charAt(i)).repeat(3000));
        }
        LogicalTimes x = Due.run(Texts.most());
        x.tick(200);
        Due.same("faults of the most", x.state(3), 6 * 199);
    }

    /** The calls of one run share a room: 512 of a kind may not fill a part of it that counts. */
    private static void roomOfCalls() {
        long before = allocated();
        LogicalTimes x = new LogicalTimes();
        Due.holds("an object is small", allocated() - before < 300000 && x.count(0) == 0);
        before = allocated();
        for (int n = 0; n < 160; n++) {
            // "mode", " A 5", "{}": a program, and one byte less, a fault.
            x.feed(0x6d6f6465, 0x20412035, 0x7b7d2020, 0, 0);
            x.end(n % 2 == 0 ? 9 : 10);
            x.compile();
        }
        Due.holds("compiling allocates few bytes", allocated() - before < 100000);
        LogicalTimes y = Due.run(TEXTS[0]);
        before = allocated();
        for (int n = 0; n < 120; n++) {
            y.reset(0);
            y.tick(200);
            y.check(0);
            y.slot(0, 0);
        }
        Due.holds("running allocates few bytes", allocated() - before < 10000);
    }

    private static long allocated() {
        return ((com.sun.management.ThreadMXBean) ManagementFactory.getThreadMXBean()).getCurrentThreadAllocatedBytes();
    }
}
