import java.util.ArrayList;
import java.util.Collections;
import java.util.List;
import java.util.Random;
import java.util.stream.IntStream;

/** Texts by chance: many are programs, some go beyond a limit of the document, some have a token that can't stand there. */
final class AnyText {
    private static final String[] TOKENS = ("port sensor mode task on if else repeat switch to slots "
        + "{ } ; , = + - * / % < > ( ) p0 l0 s0 t0 M0 "
        + "0 1 2 5 12 121 999999 1000000 abcdefgh abcdefghi 12a _ \u0000 \u00ff").split(" ");

    private final Random random;
    private final StringBuilder text = new StringBuilder();
    private int ports;
    private int sensors;
    private int locals;
    /** Of the task at hand: the locals that may be read, and the statements that it may still have. */
    private int assignedLocals;
    private int budget;
    private int tasks;

    private AnyText(Random random) {
        this.random = random;
    }

    static String next(Random random) {
        AnyText any = new AnyText(random);
        any.program();
        if (any.happens(25)) {
            any.change();
        }
        return any.text.substring(0, Math.min(any.text.length(), 3000));
    }

    private boolean happens(int ofHundred) {
        return random.nextInt(100) < ofHundred;
    }

    private int from(int least, int most) {
        return least + random.nextInt(most - least + 1);
    }

    private int oneOf(int... numbers) {
        return numbers[random.nextInt(numbers.length)];
    }

    private AnyText put(String part) {
        text.append(part).append(happens(10) ? oneOfTexts(" ", "\n", "\t", " \r\n") : "");
        return this;
    }

    private String oneOfTexts(String... texts) {
        return texts[random.nextInt(texts.length)];
    }

    private void change() {
        int at = random.nextInt(text.length() + 1);
        switch (random.nextInt(4)) {
            case 0 -> text.insert(at, oneOfTexts(TOKENS));
            case 1 -> text.replace(at, Math.min(at + 1, text.length()), " " + oneOfTexts(TOKENS) + " ");
            case 2 -> text.delete(at, Math.min(at + from(1, 3), text.length()));
            default -> text.setLength(at);
        }
    }

    private void program() {
        ports = happens(95) ? from(1, 5) : oneOf(0, 11, 12, 13);
        sensors = happens(95) ? from(0, 2) : oneOf(3, 4, 5);
        locals = happens(95) ? from(1, 4) : oneOf(6, 7);
        for (int p = 0; p < ports; p++) {
            put("port p" + p).put("=").put("" + oneOf(0, 1, 3, 7, 999999)).put(";");
        }
        for (int s = 0; s < sensors; s++) {
            put("sensor s" + s).put(";");
        }
        int modes = happens(98) ? from(1, 4) : 5;
        for (int m = 0; m < modes; m++) {
            mode(m, modes);
        }
    }

    private void mode(int number, int modes) {
        int period = happens(99) ? oneOf(1, 4, 6, 8, 12, 12, 24, 24, 30, 36, 60, 96, 120, from(1, 120)) : oneOf(0, 121);
        put("mode M" + number).put(" " + period).put("{");
        List<Integer> parts = new ArrayList<>(IntStream.rangeClosed(1, period).filter(n -> period % n == 0).boxed().toList());
        parts.add(happens(99) ? 1 : 5);
        List<Integer> free = new ArrayList<>(IntStream.range(0, ports).boxed().toList());
        Collections.shuffle(free, random);
        List<Integer> spans = new ArrayList<>();
        for (int n = happens(99) ? from(0, from(1, 6)) : 7; n > 0; n--) {
            int often = parts.get(random.nextInt(1 + random.nextInt(parts.size())));
            spans.add(Math.max(1, period / often));
            task(often, free);
        }
        assignedLocals = 0;
        List<Integer> whole = parts.stream().filter(n -> spans.stream().allMatch(span -> period / n % span == 0)).toList();
        for (int n = happens(98) ? oneOf(0, 0, 1, 1, 2, 4) : 5; n > 0; n--) {
            List<Integer> some = happens(97) && !whole.isEmpty() ? whole : parts;
            switchTo(some.get(random.nextInt(some.size())), random.nextInt(happens(98) ? modes : 5));
        }
        if (happens(80) && period > 0) {
            slots(period);
        }
        put("}");
    }

    /** Takes the ports that the task assigns from the free ones, and now and then leaves them there for another task. */
    private void task(int often, List<Integer> free) {
        put("task t" + tasks).put(" " + often).put(" on ").put("" + (happens(99) ? from(0, from(0, 3)) : 4));
        tasks++;
        List<Integer> own = new ArrayList<>(free.subList(0, Math.min(free.size(), from(0, 2))));
        free.subList(0, happens(99) ? own.size() : 0).clear();
        assignedLocals = 0;
        budget = happens(97) ? oneOf(0, 1, 1, 2, 2, 3, 4, 6, 9) : 70;
        block(own, 0, oneOf(0, 1, 2, 3, happens(90) ? 5 : 6));
    }

    private void switchTo(int often, int mode) {
        put("switch ").put("" + often).put(" if ");
        e(from(1, 5), 0);
        put(happens(60) ? "%" + from(2, 9) + ">" + from(0, 2) : "").put(" to ").put("M" + mode).put(";");
    }

    private void slots(int period) {
        int density = oneOf(20, 50, 90);
        int first = random.nextInt(period);
        put("slots ").put("" + first);
        for (int tick = first + 1; tick < period; tick++) {
            if (happens(density)) {
                put(",").put("" + tick);
            }
        }
        put(";");
    }

    private void block(List<Integer> own, int open, int deepest) {
        put("{");
        while (budget > 0) {
            budget--;
            int kind = open < deepest ? random.nextInt(10) : 0;
            if (kind < 6) {
                assignment(own);
            } else if (kind < 8) {
                put("if ");
                e(from(1, 3), 0);
                block(own, open + 1, deepest);
                if (happens(50)) {
                    put("else");
                    block(own, open + 1, deepest);
                }
            } else {
                put("repeat ").put("" + (happens(99) ? oneOf(1, 2, 2, 3, 4, 9) : 10));
                block(own, open + 1, deepest);
            }
            if (open > 0 && happens(40)) {
                break;
            }
        }
        put("}");
    }

    private void assignment(List<Integer> own) {
        int local = from(0, Math.min(assignedLocals, locals - 1));
        boolean isPort = !own.isEmpty() && happens(65);
        put(isPort ? "p" + own.get(random.nextInt(own.size())) : "l" + local).put("=");
        e(happens(98) ? oneOf(1, 1, 2, 3, 5) : from(20, 32), 0);
        put(";");
        assignedLocals += !isPort && local == assignedLocals ? 1 : 0;
    }

    private void e(int size, int open) {
        if (size > 1) {
            int left = from(1, size - 1);
            boolean isBraced = open < 7 && happens(40);
            put(isBraced ? "(" : "");
            e(left, isBraced ? open + 1 : open);
            put(oneOfTexts(isBraced ? "+ - * / % < >".split(" ") : "+ - * / %".split(" ")));
            e(size - left, isBraced ? open + 1 : open);
            put(isBraced ? ")" : "");
            return;
        }
        int opened = happens(90) ? 0 : from(1, happens(90) ? 3 : 9);
        String minuses = "-".repeat(from(0, opened));
        put(minuses + "(".repeat(opened - minuses.length()));
        int kind = random.nextInt(10);
        put(kind < 5 && ports > 0 ? "p" + random.nextInt(ports) : kind < 7 && sensors > 0 ? "s" + random.nextInt(sensors)
            : kind < 9 && assignedLocals > 0 ? "l" + random.nextInt(assignedLocals) : "" + oneOf(0, 1, 2, 5, 1000, 999999));
        put(")".repeat(opened - minuses.length()));
    }
}
