import java.util.ArrayList;
import java.util.HashMap;
import java.util.List;
import java.util.Map;
import java.util.Set;
import java.util.TreeSet;
import java.util.function.Consumer;
import java.util.function.IntPredicate;
import java.util.function.ToIntFunction;
import java.util.regex.Matcher;
import java.util.regex.Pattern;

/** A text read by a second reading of the document's grammar, into what {@link Reading} checks and runs. */
final class ReadText {
    /** The first fault, at a place. */
    static final class Fault extends RuntimeException {
        private static final long serialVersionUID = 1;

        final int place;

        Fault(int place) {
            this.place = place;
        }
    }

    /** What a run, or the E of a switch, has before it. */
    record Sight(int[] ports, int[] sensors, int[] given, Map<String, Integer> locals) {
        Sight(int[] ports, int[] sensors) {
            this(ports, sensors, ports.clone(), new HashMap<>());
        }
    }

    record Port(String name, int first) {
    }

    record Switch(int every, ToIntFunction<Sight> condition, Token target) {
    }

    record Block(Consumer<Sight> act, int worst) {
    }

    /** Words and signs are kinds of their own. */
    record Token(String kind, String spelling, int place) {
        boolean is(String... kinds) {
            return List.of(kinds).contains(kind);
        }
    }

    static final class ReadMode {
        String name;
        int period;
        final List<ReadTask> tasks = new ArrayList<>();
        final List<Switch> switches = new ArrayList<>();
        final List<Integer> slots = new ArrayList<>();
    }

    static final class ReadTask {
        String name;
        int number;
        int mode;
        int node;
        int span;
        int often;
        Block body;
        final Set<String> locals = new TreeSet<>();
        final Set<String> readable = new TreeSet<>();
        final Set<Integer> assigned = new TreeSet<>();
        final Set<Integer> read = new TreeSet<>();
    }

    private static final Pattern TOKEN =
        Pattern.compile("[ \t\n\r]*(?:([A-Za-z][A-Za-z0-9]*)|([0-9]+)|([-{};,=+*/%<>()])|(\\z)|)");

    final List<Port> ports = new ArrayList<>();
    final List<String> sensors = new ArrayList<>();
    final List<ReadMode> modes = new ArrayList<>();
    final List<ReadTask> tasks = new ArrayList<>();
    private final List<Token> tokens = new ArrayList<>();
    private int at;
    private int statements;
    private int tokensInE;

    ReadText(String text) {
        split(text);
        readProgram();
    }

    private void split(String text) {
        Matcher matcher = TOKEN.matcher(text);
        int numberEnd = -1;
        String kind = "";
        for (int from = 0; !kind.equals("end") && !kind.equals("wrong"); from = matcher.end()) {
            matcher.region(from, text.length()).lookingAt();
            String name = matcher.group(1);
            String number = matcher.group(2);
            int place = matcher.end() - matcher.group().stripLeading().length();
            if (name != null) {
                boolean isWrong = name.length() > 8 || place == numberEnd;
                kind = isWrong ? "wrong" : List.of(Texts.WORDS).contains(name) ? name : "name";
            } else if (number != null) {
                kind = number.length() > 6 ? "wrong" : "number";
                numberEnd = matcher.end();
            } else {
                kind = matcher.group(3) != null ? matcher.group(3) : matcher.group(4) != null ? "end" : "wrong";
            }
            tokens.add(new Token(kind, text.substring(place, matcher.end()), place));
        }
    }

    private Token token() {
        return tokens.get(at);
    }

    private boolean isAt(String... kinds) {
        return token().is(kinds);
    }

    private void need(boolean holds) {
        if (!holds) {
            throw new Fault(token().place());
        }
    }

    private String take(String kind) {
        need(isAt(kind));
        at++;
        return tokens.get(at - 1).spelling();
    }

    private int takeNumber(IntPredicate allowed) {
        need(isAt("number") && allowed.test(Integer.parseInt(token().spelling())));
        return Integer.parseInt(take("number"));
    }

    private String takeNewName(boolean isKnown) {
        need(isAt("name") && !isKnown);
        return take("name");
    }

    private int portNamed(String name) {
        return ports.stream().map(Port::name).toList().indexOf(name);
    }

    private void readProgram() {
        while (isAt("port", "sensor")) {
            boolean isPort = isAt("port");
            need(isPort ? ports.size() < 12 : sensors.size() < 4);
            at++;
            String name = takeNewName(portNamed(token().spelling()) >= 0 || sensors.contains(token().spelling()));
            if (isPort) {
                take("=");
                ports.add(new Port(name, takeNumber(n -> true)));
            } else {
                sensors.add(name);
            }
            take(";");
        }
        do {
            need(modes.size() < 4);
            readMode();
        } while (isAt("mode"));
        need(isAt("end"));
        for (ReadMode mode : modes) {
            for (Switch one : mode.switches) {
                if (modeNamed(one.target().spelling()) < 0) {
                    throw new Fault(one.target().place());
                }
            }
        }
    }

    int modeNamed(String name) {
        return modes.stream().map(mode -> mode.name).toList().indexOf(name);
    }

    private void readMode() {
        take("mode");
        ReadMode mode = new ReadMode();
        mode.name = takeNewName(modeNamed(token().spelling()) >= 0);
        modes.add(mode);
        mode.period = takeNumber(n -> n >= 1 && n <= 120);
        take("{");
        while (isAt("task")) {
            need(mode.tasks.size() < 6);
            readTask(mode);
        }
        while (isAt("switch")) {
            need(mode.switches.size() < 4);
            readSwitch(mode);
        }
        if (isAt("slots")) {
            do {
                at++;
                int least = mode.slots.isEmpty() ? 0 : mode.slots.get(mode.slots.size() - 1) + 1;
                mode.slots.add(takeNumber(n -> n >= least && n < mode.period));
            } while (isAt(","));
            take(";");
        }
        take("}");
    }

    private void readTask(ReadMode mode) {
        take("task");
        ReadTask task = new ReadTask();
        task.name = takeNewName(tasks.stream().anyMatch(other -> other.name.equals(token().spelling())));
        task.number = tasks.size();
        task.mode = modes.size() - 1;
        task.often = takeNumber(n -> n > 0 && mode.period % n == 0);
        task.span = mode.period / task.often;
        take("on");
        task.node = takeNumber(n -> n <= 3);
        task.body = readBlock(mode, task, 0);
        tasks.add(task);
        mode.tasks.add(task);
    }

    private void readSwitch(ReadMode mode) {
        take("switch");
        int often = takeNumber(n -> n > 0 && mode.period % n == 0
            && mode.tasks.stream().allMatch(task -> mode.period / n % task.span == 0));
        take("if");
        ToIntFunction<Sight> condition = readE(null);
        take("to");
        mode.switches.add(new Switch(mode.period / often, condition, token()));
        take("name");
        take(";");
    }

    private Block readBlock(ReadMode mode, ReadTask task, int open) {
        need(open <= 5);
        take("{");
        Consumer<Sight> all = sight -> { };
        int worst = 0;
        while (!isAt("}")) {
            need(isAt("name", "if", "repeat") && statements < 150);
            statements++;
            Block next = isAt("name") ? readAssignment(mode, task)
                : isAt("if") ? readIf(mode, task, open) : readRepeat(mode, task, open);
            all = all.andThen(next.act());
            worst += next.worst();
        }
        need(open > 0 || worst <= 200);
        take("}");
        return new Block(all, worst);
    }

    private Block readAssignment(ReadMode mode, ReadTask task) {
        String name = token().spelling();
        int port = portNamed(name);
        need(!sensors.contains(name));
        need(mode.tasks.stream().noneMatch(other -> other.assigned.contains(port)));
        need(port >= 0 || task.locals.contains(name) || task.locals.size() < 6);
        at++;
        take("=");
        ToIntFunction<Sight> value = readE(task);
        take(";");
        if (port >= 0) {
            task.assigned.add(port);
            return new Block(sight -> sight.given()[port] = value.applyAsInt(sight), 1);
        }
        task.locals.add(name);
        task.readable.add(name);
        return new Block(sight -> sight.locals().put(name, value.applyAsInt(sight)), 1);
    }

    private Block readIf(ReadMode mode, ReadTask task, int open) {
        take("if");
        ToIntFunction<Sight> condition = readE(task);
        Block then = readBlock(mode, task, open + 1);
        Block otherwise = new Block(sight -> { }, 0);
        if (isAt("else")) {
            at++;
            otherwise = readBlock(mode, task, open + 1);
        }
        Consumer<Sight> unless = otherwise.act();
        return new Block(sight -> (condition.applyAsInt(sight) != 0 ? then.act() : unless).accept(sight),
            1 + Math.max(then.worst(), otherwise.worst()));
    }

    private Block readRepeat(ReadMode mode, ReadTask task, int open) {
        take("repeat");
        int times = takeNumber(n -> n >= 1 && n <= 9);
        Block body = readBlock(mode, task, open + 1);
        Consumer<Sight> all = sight -> {
            for (int i = 0; i < times; i++) {
                body.act().accept(sight);
            }
        };
        return new Block(all, times * (1 + body.worst()));
    }

    private ToIntFunction<Sight> readE(ReadTask task) {
        tokensInE = 0;
        return readComparison(task, 0);
    }

    private String takeInE() {
        need(tokensInE < 60);
        tokensInE++;
        at++;
        return tokens.get(at - 1).spelling();
    }

    private ToIntFunction<Sight> readComparison(ReadTask task, int open) {
        ToIntFunction<Sight> left = readSum(task, open);
        if (!isAt("<", ">")) {
            return left;
        }
        boolean isLess = takeInE().equals("<");
        ToIntFunction<Sight> right = readSum(task, open);
        return sight -> {
            int order = Integer.compare(left.applyAsInt(sight), right.applyAsInt(sight));
            return (isLess ? order < 0 : order > 0) ? 1 : 0;
        };
    }

    private ToIntFunction<Sight> readSum(ReadTask task, int open) {
        ToIntFunction<Sight> all = readProduct(task, open);
        while (isAt("+", "-")) {
            ToIntFunction<Sight> left = all;
            boolean isSum = takeInE().equals("+");
            ToIntFunction<Sight> right = readProduct(task, open);
            all = sight -> isSum ? left.applyAsInt(sight) + right.applyAsInt(sight)
                : left.applyAsInt(sight) - right.applyAsInt(sight);
        }
        return all;
    }

    private ToIntFunction<Sight> readProduct(ReadTask task, int open) {
        ToIntFunction<Sight> all = readOperand(task, open);
        while (isAt("*", "/", "%")) {
            ToIntFunction<Sight> left = all;
            String sign = takeInE();
            ToIntFunction<Sight> right = readOperand(task, open);
            all = sight -> {
                int a = left.applyAsInt(sight);
                int b = right.applyAsInt(sight);
                return sign.equals("*") ? a * b : b == 0 ? 0 : sign.equals("/") ? a / b : a % b;
            };
        }
        return all;
    }

    private ToIntFunction<Sight> readOperand(ReadTask task, int open) {
        need(isAt("number", "name") || isAt("-", "(") && open < 8);
        if (isAt("number")) {
            int number = Integer.parseInt(takeInE());
            return sight -> number;
        }
        if (isAt("name")) {
            return readName(task);
        }
        if (takeInE().equals("-")) {
            ToIntFunction<Sight> operand = readOperand(task, open + 1);
            return sight -> -operand.applyAsInt(sight);
        }
        ToIntFunction<Sight> inside = readComparison(task, open + 1);
        need(isAt(")"));
        takeInE();
        return inside;
    }

    private ToIntFunction<Sight> readName(ReadTask task) {
        String name = token().spelling();
        int port = portNamed(name);
        int sensor = sensors.indexOf(name);
        need(port >= 0 || sensor >= 0 || task != null && task.readable.contains(name));
        takeInE();
        if (port >= 0 && task != null) {
            task.read.add(port);
        }
        return port >= 0 ? sight -> sight.ports()[port]
            : sensor >= 0 ? sight -> sight.sensors()[sensor] : sight -> sight.locals().getOrDefault(name, 0);
    }
}
