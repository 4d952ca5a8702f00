import java.util.ArrayList;
import java.util.Arrays;
import java.util.Comparator;
import java.util.HashMap;
import java.util.HashSet;
import java.util.List;
import java.util.Map;
import java.util.NoSuchElementException;
import java.util.Set;
import java.util.stream.Collectors;
import java.util.stream.IntStream;

/**
 * A second reading of the document, for tests that compare the class with it: as near to the words as can be, and
 * built otherwise than the class, with no thought of speed or room.
 */
final class Reading {
    private record Message(ReadText.ReadTask task, int span, int port) {
        int end() {
            return (span + 1) * task.span;
        }
    }

    /** What a check of a mode found: when the runs were done (task and span), and the slots of the messages. */
    private static final class Check {
        final Map<List<Integer>, Integer> done = new HashMap<>();
        List<Message> messages;
        int[] slots;
        int answer;
    }

    private static final class Run {
        final ReadText.ReadTask task;
        final int begin;
        final int end;
        int left;
        int[] denotes;
        int[] gives;
        final Set<Integer> sent = new HashSet<>();

        Run(ReadText.ReadTask task, int begin, int left) {
            this.task = task;
            this.begin = begin;
            this.end = begin + task.span;
            this.left = left;
        }
    }

    private static final Comparator<Run> FIRST =
        Comparator.<Run>comparingInt(run -> run.end).thenComparingInt(run -> run.task.number);
    private static final int SWITCHES = 0;
    private static final int FAULTS = 1;
    private static final int SENT = 2;
    private static final int DONE = 3;

    private String tape = "";
    private String text = "";
    private ReadText program;
    private final List<Check> checks = new ArrayList<>();
    private boolean isRunning;
    private int mode;
    private int tick;
    private int[] counts;
    private int latestFault;
    private int[] denoted;
    private int[][] seen;
    private int[] sensed;
    private int[] ran;
    private final Map<Integer, Integer> told = new HashMap<>();
    private final List<Run> runs = new ArrayList<>();

    boolean feed(int... ints) {
        if (tape.length() == 3000) {
            return false;
        }
        for (int four : ints) {
            for (int shift : new int[] {24, 16, 8, 0}) {
                tape += (char) (four >>> shift & 255);
            }
        }
        return true;
    }

    boolean end(int n) {
        if (n < 0 || n > tape.length()) {
            return false;
        }
        text = tape.substring(0, n);
        tape = "";
        return true;
    }

    int compile() {
        String read = text;
        text = "";
        isRunning = false;
        program = null;
        checks.clear();
        try {
            program = new ReadText(read);
        } catch (ReadText.Fault fault) {
            return 1 + fault.place;
        }
        program.modes.forEach(one -> checks.add(checked(one)));
        return 0;
    }

    int count(int what) {
        if (what < 0 || what > 4) {
            return -1;
        }
        return program == null ? 0 : new int[] {program.ports.size(), program.sensors.size(), program.modes.size(),
            program.tasks.size(), checks.stream().mapToInt(check -> check.messages.size()).sum()}[what];
    }

    int task(int t, int what) {
        needBelow(t, count(3));
        needBelow(what, 6);
        ReadText.ReadTask task = program.tasks.get(t);
        int worst = task.body.worst();
        return new int[] {task.mode, task.node, task.span, worst, task.locals.size(), task.assigned.size()}[what];
    }

    int check(int m) {
        needBelow(m, count(2));
        return checks.get(m).answer;
    }

    int slack(int t) {
        needBelow(t, count(3));
        ReadText.ReadTask task = program.tasks.get(t);
        Map<List<Integer>, Integer> done = checks.get(task.mode).done;
        return IntStream.range(0, task.often)
            .map(span -> done.containsKey(List.of(t, span)) ? (span + 1) * task.span - done.get(List.of(t, span)) : -1)
            .min().orElseThrow();
    }

    int slot(int m, int i) {
        needBelow(m, count(2));
        needBelow(i, checks.get(m).messages.size());
        return checks.get(m).slots[i];
    }

    private static void needBelow(int number, int size) {
        if (number < 0 || number >= size) {
            throw new NoSuchElementException();
        }
    }

    private Check checked(ReadText.ReadMode one) {
        Check check = new Check();
        List<Run> all = new ArrayList<>();
        for (int at = 0; at < one.period; at++) {
            for (ReadText.ReadTask task : one.tasks) {
                if (at % task.span == 0) {
                    all.add(new Run(task, at, task.body.worst()));
                }
            }
            for (int node = 0; node < 4; node++) {
                Run run = next(all, node, at);
                if (run != null) {
                    run.left--;
                    if (run.left == 0) {
                        check.done.put(List.of(run.task.number, run.begin / run.task.span), at + 1);
                    }
                }
            }
        }
        all.stream().filter(run -> run.task.body.worst() == 0)
            .forEach(run -> check.done.put(List.of(run.task.number, run.begin / run.task.span), run.begin));
        check.messages = messages(one);
        check.slots = new int[check.messages.size()];
        Arrays.fill(check.slots, -1);
        Run missing = all.stream().filter(run -> run.left > 0).min(FIRST).orElse(null);
        if (missing != null) {
            check.answer = 1 + missing.task.number;
            return check;
        }
        one.slots.forEach(slot -> give(check, slot));
        check.answer = IntStream.range(0, check.slots.length).filter(i -> check.slots[i] < 0).map(i -> 1001 + i)
            .findFirst().orElse(0);
        return check;
    }

    /** The run that a node runs in a tick, or null. */
    private static Run next(List<Run> all, int node, int at) {
        return all.stream().filter(run -> run.task.node == node && run.end > at && run.left > 0).min(FIRST).orElse(null);
    }

    private List<Message> messages(ReadText.ReadMode one) {
        List<Message> all = new ArrayList<>();
        for (ReadText.ReadTask task : one.tasks) {
            for (int span = 0; span < task.often; span++) {
                for (int port : task.assigned) {
                    if (program.tasks.stream().anyMatch(other -> other.node != task.node
                        && (other.read.contains(port) || other.assigned.contains(port)))) {
                        all.add(new Message(task, span, port));
                    }
                }
            }
        }
        return all;
    }

    private static void give(Check check, int slot) {
        IntStream.range(0, check.slots.length).boxed()
            .filter(i -> check.slots[i] < 0)
            .filter(i -> check.messages.get(i).end() > slot)
            .filter(i -> check.done.get(List.of(check.messages.get(i).task().number, check.messages.get(i).span())) <= slot)
            .min(Comparator.<Integer>comparingInt(i -> check.messages.get(i).end()).thenComparingInt(i -> i))
            .ifPresent(i -> check.slots[i] = slot);
    }

    void reset(int m) {
        needBelow(m, count(2));
        isRunning = true;
        mode = m;
        tick = 0;
        counts = new int[4];
        latestFault = -1;
        denoted = program.ports.stream().mapToInt(ReadText.Port::first).toArray();
        seen = IntStream.range(0, 4).mapToObj(node -> denoted.clone()).toArray(int[][]::new);
        sensed = new int[program.sensors.size()];
        ran = new int[] {-1, -1, -1, -1};
        told.clear();
        runs.clear();
    }

    private void needRunning() {
        if (!isRunning) {
            throw new IllegalStateException();
        }
    }

    void takes(int t, int n) {
        needRunning();
        needBelow(t, count(3));
        if (n < 0 || n > program.tasks.get(t).body.worst()) {
            throw new IllegalArgumentException();
        }
        told.put(t, n);
    }

    void sensor(int s, int v) {
        needRunning();
        needBelow(s, sensed.length);
        sensed[s] = v;
    }

    void tick(int n) {
        needRunning();
        if (n < 1 || n > 200) {
            throw new IllegalArgumentException();
        }
        for (int i = 0; i < n; i++) {
            passTick();
        }
    }

    private void passTick() {
        List<Run> ending = runs.stream().filter(run -> run.end == tick).collect(Collectors.toList());
        ending.stream().sorted(FIRST).forEach(this::end);
        runs.removeAll(ending);
        if (tick > 0) {
            leave(program.modes.get(mode));
        }
        ReadText.ReadMode entered = program.modes.get(mode);
        entered.tasks.stream().filter(task -> tick % task.span == 0).forEach(this::begin);
        send(checks.get(mode));
        for (int node = 0; node < 4; node++) {
            Run run = next(runs, node, tick);
            ran[node] = run == null ? -1 : run.task.number;
            if (run != null) {
                run.left--;
                counts[DONE] += run.left == 0 ? 1 : 0;
            }
        }
        tick++;
    }

    private void end(Run run) {
        if (run.left > 0) {
            counts[FAULTS]++;
            latestFault = run.task.number;
        }
        for (int port : run.task.assigned) {
            denoted[port] = run.denotes[port];
            for (int node = 0; node < 4; node++) {
                if (run.left == 0 && (node == run.task.node || run.sent.contains(port))) {
                    seen[node][port] = run.gives[port];
                }
            }
        }
    }

    private void leave(ReadText.ReadMode left) {
        for (ReadText.Switch one : left.switches) {
            if (tick % one.every() == 0 && one.condition().applyAsInt(new ReadText.Sight(denoted, sensed)) != 0) {
                mode = program.modeNamed(one.target().spelling());
                tick = 0;
                counts[SWITCHES]++;
                return;
            }
        }
        tick = tick == left.period ? 0 : tick;
    }

    private void begin(ReadText.ReadTask task) {
        Integer ticks = told.remove(task.number);
        Run run = new Run(task, tick, ticks == null ? task.body.worst() : ticks);
        run.denotes = given(task, denoted);
        run.gives = given(task, seen[task.node]);
        counts[DONE] += run.left == 0 ? 1 : 0;
        runs.add(run);
    }

    private int[] given(ReadText.ReadTask task, int[] ports) {
        ReadText.Sight sight = new ReadText.Sight(ports, sensed);
        task.body.act().accept(sight);
        return sight.given();
    }

    private void send(Check check) {
        for (int i = 0; i < check.slots.length; i++) {
            if (check.slots[i] == tick) {
                Message message = check.messages.get(i);
                Run run = runs.stream().filter(one -> one.task == message.task()).findFirst().orElseThrow();
                if (run.left == 0) {
                    run.sent.add(message.port());
                    counts[SENT]++;
                }
            }
        }
    }

    int port(int node, int p) {
        needRunning();
        needBelow(node, 4);
        needBelow(p, denoted.length);
        return seen[node][p];
    }

    int denoted(int p) {
        needRunning();
        needBelow(p, denoted.length);
        return denoted[p];
    }

    int state(int what) {
        needRunning();
        needBelow(what, 7);
        return new int[] {mode, tick, counts[SWITCHES], counts[FAULTS], latestFault, counts[SENT], counts[DONE]}[what];
    }

    int running(int node) {
        needRunning();
        needBelow(node, 4);
        return ran[node];
    }
}
