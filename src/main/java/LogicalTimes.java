import java.util.Arrays;
import java.util.NoSuchElementException;

/**
 * A language of modes and tasks with logical times: a task reads what it needs when its span begins, and what it
 * gives is seen when its span ends, whenever it is done in between.
 */
public final class LogicalTimes {
    private static final int MOST_BYTES = 3000;
    private static final int BYTES_FED = 20;
    private static final int MOST_TICKS = 200;
    private static final int NODES = 4;
    private static final int MOST_PORTS = 12;
    private static final int MOST_SENSORS = 4;
    private static final int MOST_MODES = 4;
    private static final int MOST_TASKS = 6;
    private static final int MOST_SWITCHES = 4;
    private static final int MOST_LOCALS = 6;
    private static final int MOST_PERIOD = 120;

    private final byte[] tape = new byte[MOST_BYTES];
    private final byte[] text = new byte[MOST_BYTES];
    private int tapeSize;
    private int textSize;
    private final Tokens tokens = new Tokens();
    private final Program program = new Program();
    private final Reader reader = new Reader(tokens, program);
    private final Runner runner = new Runner(program);

    public LogicalTimes() {
    }

    public boolean feed(int a, int b, int c, int d, int e) {
        if (tapeSize + BYTES_FED > MOST_BYTES) {
            return false;
        }
        putBytes(a);
        putBytes(b);
        putBytes(c);
        putBytes(d);
        putBytes(e);
        return true;
    }

    private void putBytes(int four) {
        for (int shift = 24; shift >= 0; shift -= 8) {
            tape[tapeSize] = (byte) (four >> shift);
            tapeSize++;
        }
    }

    public boolean end(int n) {
        if (n < 0 || n > tapeSize) {
            return false;
        }
        System.arraycopy(tape, 0, text, 0, n);
        textSize = n;
        tapeSize = 0;
        return true;
    }

    public int compile() {
        runner.runs = false;
        tokens.split(text, textSize);
        textSize = 0;
        try {
            reader.readProgram();
        } catch (IllegalArgumentException fault) {
            program.clear();
            return 1 + reader.placeAtHand();
        }
        program.prepare();
        return 0;
    }

    public int count(int what) {
        switch (what) {
            case 0:
                return program.ports;
            case 1:
                return program.sensors;
            case 2:
                return program.modesRead;
            case 3:
                return program.tasksRead;
            case 4:
                return program.allMessages();
            default:
                return -1;
        }
    }

    public int task(int t, int what) throws NoSuchElementException {
        Task asked = taskNumbered(t);
        switch (what) {
            case 0:
                return asked.mode;
            case 1:
                return asked.node;
            case 2:
                return asked.span;
            case 3:
                return asked.worst;
            case 4:
                return asked.locals;
            case 5:
                return Integer.bitCount(asked.assigned);
            default:
                throw new NoSuchElementException();
        }
    }

    public int check(int m) throws NoSuchElementException {
        return modeNumbered(m).verdict;
    }

    public int slack(int t) throws NoSuchElementException {
        return taskNumbered(t).slack;
    }

    public int slot(int m, int i) throws NoSuchElementException {
        Mode asked = modeNumbered(m);
        if (i < 0 || i >= asked.messages) {
            throw new NoSuchElementException();
        }
        return asked.slotOf[i];
    }

    public void reset(int m) throws NoSuchElementException {
        modeNumbered(m);
        runner.restart(m);
    }

    public void takes(int t, int n) throws IllegalStateException, NoSuchElementException, IllegalArgumentException {
        needRunning();
        Task told = taskNumbered(t);
        if (n < 0 || n > told.worst) {
            throw new IllegalArgumentException();
        }
        told.run.told = n;
    }

    public void sensor(int s, int v) throws IllegalStateException, NoSuchElementException {
        needRunning();
        needBelow(s, program.sensors);
        runner.sensed[s] = v;
    }

    public void tick(int n) throws IllegalStateException, IllegalArgumentException {
        needRunning();
        if (n < 1 || n > MOST_TICKS) {
            throw new IllegalArgumentException();
        }
        for (int i = 0; i < n; i++) {
            runner.passTick();
        }
    }

    public int port(int node, int p) throws IllegalStateException, NoSuchElementException {
        needRunning();
        needBelow(node, NODES);
        needBelow(p, program.ports);
        return runner.seen[node][p];
    }

    public int denoted(int p) throws IllegalStateException, NoSuchElementException {
        needRunning();
        needBelow(p, program.ports);
        return runner.said[p];
    }

    public int state(int what) throws IllegalStateException, NoSuchElementException {
        needRunning();
        switch (what) {
            case 0:
                return runner.mode;
            case 1:
                return runner.tick;
            case 2:
                return runner.switches;
            case 3:
                return runner.faults;
            case 4:
                return runner.latestFault;
            case 5:
                return runner.messagesSent;
            case 6:
                return runner.runsDone;
            default:
                throw new NoSuchElementException();
        }
    }

    public int running(int node) throws IllegalStateException, NoSuchElementException {
        needRunning();
        needBelow(node, NODES);
        return runner.ran[node];
    }

    private void needRunning() {
        if (!runner.runs) {
            throw new IllegalStateException();
        }
    }

    private static void needBelow(int number, int size) {
        if (number < 0 || number >= size) {
            throw new NoSuchElementException();
        }
    }

    private Task taskNumbered(int t) {
        needBelow(t, program.tasksRead);
        return program.tasks[t];
    }

    private Mode modeNumbered(int m) {
        needBelow(m, program.modesRead);
        return program.modes[m];
    }

    /** The kinds of tokens; signs that stand between operands have a level, the higher the closer they bind. */
    private enum Kind {
        PORT("port"), SENSOR("sensor"), MODE("mode"), TASK("task"), ON("on"), IF("if"), ELSE("else"),
        REPEAT("repeat"), SWITCH("switch"), TO("to"), SLOTS("slots"),
        OPEN("{"), CLOSE("}"), SEMICOLON(";"), COMMA(","), BECOMES("="), LEFT("("), RIGHT(")"),
        LESS("<", Kind.COMPARISON, Code.LESS), MORE(">", Kind.COMPARISON, Code.MORE),
        PLUS("+", Kind.SUM, Code.ADD), MINUS("-", Kind.SUM, Code.SUBTRACT),
        TIMES("*", Kind.PRODUCT, Code.MULTIPLY), OVER("/", Kind.PRODUCT, Code.DIVIDE),
        REST("%", Kind.PRODUCT, Code.REST),
        NAME(""), NUMBER(""), END(""), WRONG("");

        static final int COMPARISON = 0;
        static final int SUM = 1;
        static final int PRODUCT = 2;
        private static final int NO_LEVEL = -1;
        private static final Kind[] ALL = values();

        private final String spelling;
        final int level;
        final int act;

        Kind(String spelling) {
            this(spelling, NO_LEVEL, Code.NONE);
        }

        Kind(String spelling, int level, int act) {
            this.spelling = spelling;
            this.level = level;
            this.act = act;
        }

        static Kind spelled(byte[] text, int from, int to, Kind otherwise) {
            for (int k = 0; k < ALL.length; k++) {
                if (ALL[k].stands(text, from, to)) {
                    return ALL[k];
                }
            }
            return otherwise;
        }

        private boolean stands(byte[] text, int from, int to) {
            if (spelling.length() != to - from) {
                return false;
            }
            for (int i = from; i < to; i++) {
                if (spelling.charAt(i - from) != text[i]) {
                    return false;
                }
            }
            return true;
        }
    }

    /**
     * The text's tokens. The last one is END, or WRONG where no token begins: no rule of the grammar takes a WRONG
     * one, so the reader comes upon it in its turn and nothing behind it matters.
     */
    private static final class Tokens {
        private static final int LONGEST_NAME = 8;
        private static final int LONGEST_NUMBER = 6;

        final Kind[] kinds = new Kind[MOST_BYTES + 1];
        final int[] places = new int[MOST_BYTES + 1];
        /** A number's value, or a name's bytes, eight of which fill a long. */
        final long[] values = new long[MOST_BYTES + 1];
        private int size;
        private int numberEnd;

        void split(byte[] text, int length) {
            size = 0;
            numberEnd = -1;
            int at = 0;
            for (int n = 0; n <= length; n++) {
                at = splitNext(text, pastBlanks(text, at, length), length);
                if (kinds[size - 1] == Kind.END || kinds[size - 1] == Kind.WRONG) {
                    return;
                }
            }
        }

        private static int pastBlanks(byte[] text, int from, int length) {
            int at = from;
            while (at < length && (text[at] == 32 || text[at] == 9 || text[at] == 10 || text[at] == 13)) {
                at++;
            }
            return at;
        }

        private int splitNext(byte[] text, int from, int length) {
            if (from == length) {
                put(Kind.END, from, 0);
                return from;
            }
            if (isLetter(text[from]) && from != numberEnd) {
                return splitName(text, from, length);
            }
            if (isDigit(text[from])) {
                return splitNumber(text, from, length);
            }
            put(Kind.spelled(text, from, from + 1, Kind.WRONG), from, 0);
            return from + 1;
        }

        private int splitName(byte[] text, int from, int length) {
            int at = from;
            long name = 0;
            while (at < length && (isLetter(text[at]) || isDigit(text[at]))) {
                name = name << 8 | text[at];
                at++;
            }
            put(at - from > LONGEST_NAME ? Kind.WRONG : Kind.spelled(text, from, at, Kind.NAME), from, name);
            return at;
        }

        private int splitNumber(byte[] text, int from, int length) {
            int at = from;
            long number = 0;
            while (at < length && isDigit(text[at])) {
                number = number * 10 + (text[at] - '0');
                at++;
            }
            put(at - from > LONGEST_NUMBER ? Kind.WRONG : Kind.NUMBER, from, number);
            numberEnd = at;
            return at;
        }

        private void put(Kind kind, int place, long value) {
            kinds[size] = kind;
            places[size] = place;
            values[size] = value;
            size++;
        }

        private static boolean isLetter(int b) {
            return b >= 'a' && b <= 'z' || b >= 'A' && b <= 'Z';
        }

        private static boolean isDigit(int b) {
            return b >= '0' && b <= '9';
        }
    }

    /** Names with what they mean. */
    private static final class Names {
        private final long[] names;
        final int[] acts;
        final int[] numbers;
        int size;

        Names(int most) {
            names = new long[most];
            acts = new int[most];
            numbers = new int[most];
        }

        /** The name's entry, or -1. */
        int find(long name) {
            for (int i = 0; i < size; i++) {
                if (names[i] == name) {
                    return i;
                }
            }
            return -1;
        }

        void add(long name, int act, int number) {
            if (size < names.length) {
                names[size] = name;
                acts[size] = act;
                numbers[size] = number;
                size++;
            }
        }
    }

    /**
     * Reads the tokens by the grammar into a program. Every fault is thrown while the token at hand is the one that
     * can't stand there, so that its place is the fault's.
     */
    private static final class Reader {
        private static final int MOST_BLOCKS_OPEN = 5;
        private static final int MOST_STATEMENTS = 150;
        private static final int MOST_TOKENS_IN_E = 60;
        private static final int MOST_OPEN_IN_E = 8;
        private static final int MOST_REPEATS = 9;
        private static final int MOST_WORST = 200;
        private static final int ANY_NUMBER = 999999;

        private final Tokens tokens;
        private final Program program;
        private final Code code;
        /** The ports and sensors, and behind them the locals of the task at hand. */
        private final Names known = new Names(MOST_PORTS + MOST_SENSORS + MOST_LOCALS);
        private final Names modeNames = new Names(MOST_MODES);
        private final Names taskNames = new Names(MOST_MODES * MOST_TASKS);
        private int at;
        private int statements;
        private int tokensInE;
        private int portsUsed;
        private Mode mode;
        private Task task;

        Reader(Tokens tokens, Program program) {
            this.tokens = tokens;
            this.program = program;
            this.code = program.code;
        }

        int placeAtHand() {
            return tokens.places[at];
        }

        void readProgram() {
            program.clear();
            known.size = 0;
            modeNames.size = 0;
            taskNames.size = 0;
            statements = 0;
            at = 0;
            for (int n = 0; n <= MOST_PORTS + MOST_SENSORS && (isAt(Kind.PORT) || isAt(Kind.SENSOR)); n++) {
                readDeclaration();
            }
            for (int n = 0; n <= MOST_MODES && (n == 0 || isAt(Kind.MODE)); n++) {
                readMode();
            }
            refuse(!isAt(Kind.END));
            aimSwitches();
        }

        private void readDeclaration() {
            boolean isPort = isAt(Kind.PORT);
            refuse(isPort ? program.ports == MOST_PORTS : program.sensors == MOST_SENSORS);
            at++;
            takeNewName(known, isPort ? Code.PORT : Code.SENSOR, isPort ? program.ports : program.sensors);
            if (isPort) {
                take(Kind.BECOMES);
                program.addPort(takeNumber(0, ANY_NUMBER));
            } else {
                program.sensors++;
            }
            take(Kind.SEMICOLON);
        }

        private void readMode() {
            refuse(program.modesRead == MOST_MODES);
            take(Kind.MODE);
            takeNewName(modeNames, Code.NONE, 0);
            mode = program.addMode(takeNumber(1, MOST_PERIOD));
            take(Kind.OPEN);
            for (int n = 0; n <= MOST_TASKS && isAt(Kind.TASK); n++) {
                readTask();
            }
            for (int n = 0; n <= MOST_SWITCHES && isAt(Kind.SWITCH); n++) {
                readSwitch();
            }
            if (isAt(Kind.SLOTS)) {
                readSlots();
            }
            take(Kind.CLOSE);
        }

        private void readTask() {
            refuse(mode.size == MOST_TASKS);
            at++;
            takeNewName(taskNames, Code.NONE, 0);
            int span = takePart(false);
            take(Kind.ON);
            task = program.addTask(mode, takeNumber(0, NODES - 1), span);
            forgetLocals();
            portsUsed = 0;
            task.from = code.size;
            task.worst = readBlock(0);
            task.to = code.size;
            task.used = portsUsed;
            mode.assigned |= task.assigned;
        }

        private void forgetLocals() {
            known.size = program.ports + program.sensors;
        }

        /** Answers the ticks of the block's longest way; a block with none open around it is a task's own. */
        private int readBlock(int open) {
            refuse(open > MOST_BLOCKS_OPEN);
            take(Kind.OPEN);
            int worst = 0;
            for (int n = 0; n <= MOST_STATEMENTS && !isAt(Kind.CLOSE); n++) {
                worst += readStatement(open);
            }
            refuse(open == 0 && worst > MOST_WORST);
            take(Kind.CLOSE);
            return worst;
        }

        private int readStatement(int open) {
            refuse(statements == MOST_STATEMENTS);
            statements++;
            tokensInE = 0;
            if (isAt(Kind.IF)) {
                return readIf(open);
            }
            if (isAt(Kind.REPEAT)) {
                return readRepeat(open);
            }
            readAssignment();
            return 1;
        }

        private int readIf(int open) {
            at++;
            readLevel(Kind.COMPARISON, 0);
            int skip = code.add(Code.SKIP_UNLESS, 0);
            int worst = readBlock(open + 1);
            if (isAt(Kind.ELSE)) {
                at++;
                int skipElse = code.add(Code.SKIP, 0);
                code.aimHere(skip);
                skip = skipElse;
                worst = Math.max(worst, readBlock(open + 1));
            }
            code.aimHere(skip);
            return 1 + worst;
        }

        private int readRepeat(int open) {
            at++;
            int times = takeNumber(1, MOST_REPEATS);
            code.add(Code.REPEAT, times);
            int from = code.size;
            int worst = readBlock(open + 1);
            code.add(Code.AGAIN, from);
            return times * (1 + worst);
        }

        private void readAssignment() {
            refuse(!isAt(Kind.NAME));
            int entry = known.find(tokens.values[at]);
            if (entry < 0) {
                refuse(task.locals == MOST_LOCALS);
                entry = known.size;
                // No E may read the local before the statement's semicolon.
                known.add(tokens.values[at], Code.NONE, task.locals);
                task.locals++;
            }
            int number = known.numbers[entry];
            boolean isPort = known.acts[entry] == Code.PORT;
            refuse(known.acts[entry] == Code.SENSOR || isPort && (mode.assigned >> number & 1) != 0);
            at++;
            take(Kind.BECOMES);
            readLevel(Kind.COMPARISON, 0);
            code.add(isPort ? Code.SET_PORT : Code.SET_LOCAL, number);
            take(Kind.SEMICOLON);
            if (isPort) {
                task.assigned |= 1 << number;
            } else {
                known.acts[entry] = Code.LOCAL;
            }
        }

        /** Operands with the signs of a level between, from the left; of comparisons there is one at most. */
        private void readLevel(int level, int open) {
            if (level > Kind.PRODUCT) {
                readOperand(open);
                return;
            }
            readLevel(level + 1, open);
            int most = level == Kind.COMPARISON ? 1 : MOST_TOKENS_IN_E;
            for (int n = 0; n < most && tokens.kinds[at].level == level; n++) {
                int act = tokens.kinds[at].act;
                takeInE();
                readLevel(level + 1, open);
                code.add(act, 0);
            }
        }

        private void readOperand(int open) {
            if (isAt(Kind.NUMBER)) {
                code.add(Code.NUMBER, (int) tokens.values[at]);
            } else if (isAt(Kind.NAME)) {
                int entry = known.find(tokens.values[at]);
                refuse(entry < 0 || known.acts[entry] == Code.NONE);
                code.add(known.acts[entry], known.numbers[entry]);
                portsUsed |= known.acts[entry] == Code.PORT ? 1 << known.numbers[entry] : 0;
            } else if (isAt(Kind.MINUS)) {
                refuse(open == MOST_OPEN_IN_E);
                takeInE();
                readOperand(open + 1);
                code.add(Code.NEGATE, 0);
                return;
            } else {
                refuse(!isAt(Kind.LEFT) || open == MOST_OPEN_IN_E);
                takeInE();
                readLevel(Kind.COMPARISON, open + 1);
                refuse(!isAt(Kind.RIGHT));
            }
            takeInE();
        }

        private void takeInE() {
            if (tokensInE == MOST_TOKENS_IN_E) {
                throw new IllegalArgumentException();
            }
            tokensInE++;
            at++;
        }

        private void readSwitch() {
            refuse(mode.exitsRead == MOST_SWITCHES);
            at++;
            Exit exit = mode.addExit();
            exit.every = takePart(true);
            take(Kind.IF);
            forgetLocals();
            tokensInE = 0;
            exit.from = code.size;
            readLevel(Kind.COMPARISON, 0);
            exit.to = code.size;
            take(Kind.TO);
            exit.token = at;
            take(Kind.NAME);
            take(Kind.SEMICOLON);
        }

        private void readSlots() {
            at++;
            int least = 0;
            for (int n = 0; n <= mode.period; n++) {
                int tick = takeNumber(least, mode.period - 1);
                mode.hasSlot[tick] = true;
                least = tick + 1;
                if (!isAt(Kind.COMMA)) {
                    break;
                }
                at++;
            }
            take(Kind.SEMICOLON);
        }

        /** A switch may go to a later mode, so its name is looked up when all is read. */
        private void aimSwitches() {
            for (int m = 0; m < program.modesRead; m++) {
                for (int e = 0; e < program.modes[m].exitsRead; e++) {
                    Exit exit = program.modes[m].exits[e];
                    at = exit.token;
                    exit.target = modeNames.find(tokens.values[at]);
                    refuse(exit.target < 0);
                }
            }
        }

        private boolean isAt(Kind kind) {
            return tokens.kinds[at] == kind;
        }

        private static void refuse(boolean wrong) {
            if (wrong) {
                throw new IllegalArgumentException();
            }
        }

        private void take(Kind kind) {
            if (tokens.kinds[at] != kind) {
                throw new IllegalArgumentException();
            }
            at++;
        }

        private void takeNewName(Names names, int act, int number) {
            refuse(!isAt(Kind.NAME) || names.find(tokens.values[at]) >= 0);
            names.add(tokens.values[at], act, number);
            at++;
        }

        private int takeNumber(int least, int most) {
            refuse(!isAt(Kind.NUMBER) || tokens.values[at] < least || tokens.values[at] > most);
            int number = (int) tokens.values[at];
            at++;
            return number;
        }

        /** Takes a number that goes into the period, and answers the ticks of each part. */
        private int takePart(boolean ofWholeSpans) {
            refuse(!isAt(Kind.NUMBER) || tokens.values[at] == 0 || mode.period % tokens.values[at] != 0);
            int part = mode.period / (int) tokens.values[at];
            refuse(ofWholeSpans && !mode.spansGoInto(part));
            at++;
            return part;
        }
    }

    /** What the tasks and switches compute, step by step: the operands of an E stand ahead of their sign. */
    private static final class Code {
        static final int NONE = 0;
        static final int NUMBER = 1;
        static final int PORT = 2;
        static final int SENSOR = 3;
        static final int LOCAL = 4;
        static final int NEGATE = 5;
        static final int ADD = 6;
        static final int SUBTRACT = 7;
        static final int MULTIPLY = 8;
        static final int DIVIDE = 9;
        static final int REST = 10;
        static final int LESS = 11;
        static final int MORE = 12;
        static final int SET_PORT = 13;
        static final int SET_LOCAL = 14;
        static final int SKIP_UNLESS = 15;
        static final int SKIP = 16;
        static final int REPEAT = 17;
        static final int AGAIN = 18;
        /** A task's worst of 200 keeps its way far below this. */
        private static final int MOST_STEPS = 1000000;

        /** Each step stems from a byte of the text at least, so none is ever left out. */
        private final int[] acts = new int[MOST_BYTES];
        private final int[] operands = new int[MOST_BYTES];
        int size;
        /** Each token of an E puts one value here at most. */
        private final int[] stack = new int[Reader.MOST_TOKENS_IN_E];
        private int height;
        private final int[] rounds = new int[Reader.MOST_BLOCKS_OPEN];
        private int depth;
        private final int[] locals = new int[MOST_LOCALS];

        /** Answers the step's place. */
        int add(int act, int operand) {
            int place = size;
            if (place < acts.length) {
                acts[place] = act;
                operands[place] = operand;
                size++;
            }
            return place;
        }

        void aimHere(int place) {
            if (place < operands.length) {
                operands[place] = size;
            }
        }

        /** Follows the steps, puts what is assigned to ports into given, and answers the value of a lone E. */
        int follow(int from, int to, int[] ports, int[] sensors, int[] given) {
            Arrays.fill(locals, 0);
            height = 0;
            depth = 0;
            int at = from;
            for (int n = 0; n < MOST_STEPS && at < to; n++) {
                int operand = operands[at];
                switch (acts[at]) {
                    case NUMBER:
                        push(operand);
                        break;
                    case PORT:
                        push(ports[operand]);
                        break;
                    case SENSOR:
                        push(sensors[operand]);
                        break;
                    case LOCAL:
                        push(locals[operand]);
                        break;
                    case NEGATE:
                        push(-pop());
                        break;
                    case SET_PORT:
                        given[operand] = pop();
                        break;
                    case SET_LOCAL:
                        locals[operand] = pop();
                        break;
                    case REPEAT:
                        rounds[depth] = operand;
                        depth++;
                        break;
                    case SKIP_UNLESS:
                        at = pop() == 0 ? operand - 1 : at;
                        break;
                    case SKIP:
                        at = operand - 1;
                        break;
                    case AGAIN:
                        at = isLastRound() ? at : operand - 1;
                        break;
                    default:
                        int right = pop();
                        push(combined(acts[at], pop(), right));
                }
                at++;
            }
            return stack[0];
        }

        private boolean isLastRound() {
            rounds[depth - 1]--;
            boolean isLast = rounds[depth - 1] == 0;
            depth -= isLast ? 1 : 0;
            return isLast;
        }

        private static int combined(int act, int left, int right) {
            switch (act) {
                case ADD:
                    return left + right;
                case SUBTRACT:
                    return left - right;
                case MULTIPLY:
                    return left * right;
                case DIVIDE:
                    return right == 0 ? 0 : left / right;
                case REST:
                    return right == 0 ? 0 : left % right;
                case LESS:
                    return left < right ? 1 : 0;
                default:
                    return left > right ? 1 : 0;
            }
        }

        private void push(int value) {
            stack[height] = value;
            height++;
        }

        private int pop() {
            height--;
            return stack[height];
        }
    }

    /** What was read; its rows are made once and used again for each text. */
    private static final class Program {
        final Code code = new Code();
        final int[] firstValues = new int[MOST_PORTS];
        final Mode[] modes = new Mode[MOST_MODES];
        final Task[] tasks = new Task[MOST_MODES * MOST_TASKS];
        int ports;
        int sensors;
        int modesRead;
        int tasksRead;

        Program() {
            for (int m = 0; m < modes.length; m++) {
                modes[m] = new Mode(m);
            }
            for (int t = 0; t < tasks.length; t++) {
                tasks[t] = new Task(t);
            }
        }

        void clear() {
            code.size = 0;
            ports = 0;
            sensors = 0;
            modesRead = 0;
            tasksRead = 0;
        }

        void addPort(int firstValue) {
            firstValues[ports] = firstValue;
            ports++;
        }

        Mode addMode(int period) {
            Mode mode = modes[modesRead];
            mode.renew(period);
            modesRead++;
            return mode;
        }

        Task addTask(Mode mode, int node, int span) {
            Task task = tasks[tasksRead];
            task.renew(mode.number, node, span);
            tasksRead++;
            mode.tasks[mode.size] = task;
            mode.size++;
            return task;
        }

        /** A check depends on the text alone, so it is made once. */
        void prepare() {
            for (int m = 0; m < modesRead; m++) {
                countMessages(modes[m]);
                modes[m].checkTasks();
                modes[m].judge();
            }
        }

        private void countMessages(Mode mode) {
            for (int t = 0; t < mode.size; t++) {
                Task task = mode.tasks[t];
                for (int p = 0; p < ports; p++) {
                    if ((task.assigned >> p & 1) != 0 && isUsedElsewhere(p, task.node)) {
                        task.sentPorts[task.portsSent] = p;
                        task.portsSent++;
                    }
                }
                task.firstMessage = mode.messages;
                mode.messages += mode.period / task.span * task.portsSent;
            }
        }

        private boolean isUsedElsewhere(int port, int node) {
            for (int t = 0; t < tasksRead; t++) {
                if (tasks[t].node != node && ((tasks[t].used | tasks[t].assigned) >> port & 1) != 0) {
                    return true;
                }
            }
            return false;
        }

        int allMessages() {
            int sum = 0;
            for (int m = 0; m < modesRead; m++) {
                sum += modes[m].messages;
            }
            return sum;
        }
    }

    private static final class Mode {
        private static final int MESSAGE_MISSES = 1000;

        final int number;
        int period;
        final Task[] tasks = new Task[MOST_TASKS];
        int size;
        /** The ports that the tasks ahead of the one at hand assign, a bit each. */
        int assigned;
        final Exit[] exits = new Exit[MOST_SWITCHES];
        int exitsRead;
        final boolean[] hasSlot = new boolean[MOST_PERIOD];
        /** The task, and the port of it, whose message has the slot at a tick; no task without one. */
        final Task[] senderAt = new Task[MOST_PERIOD];
        final int[] portAt = new int[MOST_PERIOD];
        int messages;
        /** A port has one task of the mode, and that one has as many spans as the period has ticks at most. */
        final int[] slotOf = new int[MOST_PORTS * MOST_PERIOD];
        int verdict;

        Mode(int number) {
            this.number = number;
            for (int e = 0; e < exits.length; e++) {
                exits[e] = new Exit();
            }
        }

        void renew(int newPeriod) {
            period = newPeriod;
            size = 0;
            assigned = 0;
            exitsRead = 0;
            messages = 0;
            for (int tick = 0; tick < hasSlot.length; tick++) {
                hasSlot[tick] = false;
            }
        }

        Exit addExit() {
            Exit exit = exits[exitsRead];
            exitsRead++;
            return exit;
        }

        boolean spansGoInto(int part) {
            for (int t = 0; t < size; t++) {
                if (part % tasks[t].span != 0) {
                    return false;
                }
            }
            return true;
        }

        /** Of a node's runs that aren't done the task of the one whose span ends first, or null. */
        Task firstToRun(int node) {
            Task first = null;
            for (int t = 0; t < size; t++) {
                Task task = tasks[t];
                if (task.node == node && task.run.left > 0 && (first == null || task.run.end < first.run.end)) {
                    first = task;
                }
            }
            return first;
        }

        /** Goes through the period once; slots are given on the way, and are lost if a task misses later on. */
        void checkTasks() {
            verdict = 0;
            loseSlots();
            for (int tick = 0; tick < period; tick++) {
                beginSpans(tick);
                if (hasSlot[tick]) {
                    giveSlot(tick);
                }
                for (int node = 0; node < NODES; node++) {
                    runNode(node, tick);
                }
                endSpans(tick + 1);
            }
        }

        void judge() {
            if (verdict != 0) {
                loseSlots();
                return;
            }
            for (int i = 0; i < messages; i++) {
                if (slotOf[i] < 0) {
                    verdict = MESSAGE_MISSES + i + 1;
                    return;
                }
            }
        }

        private void loseSlots() {
            Arrays.fill(slotOf, -1);
            for (int tick = 0; tick < senderAt.length; tick++) {
                senderAt[tick] = null;
            }
        }

        private void beginSpans(int tick) {
            for (int t = 0; t < size; t++) {
                if (tick % tasks[t].span == 0) {
                    tasks[t].run.begin(tasks[t].worst, tick + tasks[t].span);
                }
            }
        }

        /**
         * The span at hand alone counts: those ahead of it have ended, and those behind it aren't done. Its messages
         * end together, so the lowest number is that of the first task, and of its next port.
         */
        private void giveSlot(int tick) {
            Task first = null;
            for (int t = 0; t < size; t++) {
                Run run = tasks[t].run;
                boolean waits = run.left == 0 && run.slotsTaken < tasks[t].portsSent;
                if (waits && (first == null || run.end < first.run.end)) {
                    first = tasks[t];
                }
            }
            if (first != null) {
                int next = first.run.slotsTaken;
                senderAt[tick] = first;
                portAt[tick] = first.sentPorts[next];
                slotOf[first.firstMessage + tick / first.span * first.portsSent + next] = tick;
                first.run.slotsTaken++;
            }
        }

        private void runNode(int node, int tick) {
            Task task = firstToRun(node);
            if (task == null) {
                return;
            }
            task.run.left--;
            if (task.run.left == 0) {
                task.slack = Math.min(task.slack, task.run.end - (tick + 1));
            }
        }

        private void endSpans(int tick) {
            for (int t = 0; t < size; t++) {
                Task task = tasks[t];
                if (task.run.end == tick && task.run.left > 0) {
                    task.slack = -1;
                    verdict = verdict == 0 ? 1 + task.number : verdict;
                }
            }
        }
    }

    /** A switch out of a mode. */
    private static final class Exit {
        int every;
        int from;
        int to;
        int token;
        int target;
    }

    private static final class Task {
        final int number;
        int mode;
        int node;
        int span;
        int worst;
        int locals;
        /** The ports that it assigns, and those that it has in an E, a bit each. */
        int assigned;
        int used;
        int from;
        int to;
        final int[] sentPorts = new int[MOST_PORTS];
        int portsSent;
        int firstMessage;
        int slack;
        final Run run = new Run();

        Task(int number) {
            this.number = number;
        }

        void renew(int newMode, int newNode, int newSpan) {
            mode = newMode;
            node = newNode;
            span = newSpan;
            locals = 0;
            assigned = 0;
            portsSent = 0;
            slack = newSpan;
        }
    }

    /** The run of a task in the span at hand; checking and running use it in turn, never at once. */
    private static final class Run {
        static final int NOTHING_TOLD = -1;

        int left;
        int end;
        int told;
        /** In a check: how many of the span's messages have a slot. */
        int slotsTaken;
        /** The ports whose message was sent, a bit each. */
        int sent;
        /** What is given by what is denoted, and by what the task's node sees. */
        final int[] saidGiven = new int[MOST_PORTS];
        final int[] seenGiven = new int[MOST_PORTS];

        void begin(int ticks, int newEnd) {
            left = ticks;
            end = newEnd;
            slotsTaken = 0;
            sent = 0;
        }
    }

    private static final class Runner {
        private final Program program;
        boolean runs;
        int mode;
        int tick;
        int switches;
        int faults;
        int latestFault;
        int messagesSent;
        int runsDone;
        final int[] said = new int[MOST_PORTS];
        final int[][] seen = new int[NODES][MOST_PORTS];
        final int[] sensed = new int[MOST_SENSORS];
        final int[] ran = new int[NODES];

        Runner(Program program) {
            this.program = program;
        }

        void restart(int firstMode) {
            runs = true;
            mode = firstMode;
            tick = 0;
            switches = 0;
            faults = 0;
            latestFault = -1;
            messagesSent = 0;
            runsDone = 0;
            System.arraycopy(program.firstValues, 0, said, 0, MOST_PORTS);
            for (int node = 0; node < NODES; node++) {
                System.arraycopy(program.firstValues, 0, seen[node], 0, MOST_PORTS);
            }
            Arrays.fill(sensed, 0);
            Arrays.fill(ran, -1);
            for (int t = 0; t < program.tasksRead; t++) {
                program.tasks[t].run.told = Run.NOTHING_TOLD;
            }
        }

        void passTick() {
            if (tick > 0) {
                endSpans(program.modes[mode]);
                changeMode(program.modes[mode]);
            }
            beginSpans(program.modes[mode]);
            // A run that is done in this tick is too late for the tick's own slot, so sending goes ahead of running.
            sendMessage(program.modes[mode]);
            for (int node = 0; node < NODES; node++) {
                runNode(node);
            }
            tick++;
        }

        private void endSpans(Mode left) {
            for (int t = 0; t < left.size; t++) {
                if (tick % left.tasks[t].span == 0) {
                    publish(left.tasks[t]);
                }
            }
        }

        private void publish(Task task) {
            boolean isDone = task.run.left == 0;
            if (!isDone) {
                faults++;
                latestFault = task.number;
            }
            for (int p = 0; p < program.ports; p++) {
                if ((task.assigned >> p & 1) != 0) {
                    said[p] = task.run.saidGiven[p];
                    if (isDone) {
                        show(task, p);
                    }
                }
            }
        }

        private void show(Task task, int port) {
            boolean wasSent = (task.run.sent >> port & 1) != 0;
            for (int node = 0; node < NODES; node++) {
                if (wasSent || node == task.node) {
                    seen[node][port] = task.run.seenGiven[port];
                }
            }
        }

        private void changeMode(Mode left) {
            for (int e = 0; e < left.exitsRead; e++) {
                Exit exit = left.exits[e];
                // A switch assigns nothing: the row that it is given stays as it is.
                if (tick % exit.every == 0 && program.code.follow(exit.from, exit.to, said, sensed, said) != 0) {
                    mode = exit.target;
                    tick = 0;
                    switches++;
                    return;
                }
            }
            if (tick == left.period) {
                tick = 0;
            }
        }

        private void beginSpans(Mode entered) {
            for (int t = 0; t < entered.size; t++) {
                if (tick % entered.tasks[t].span == 0) {
                    beginRun(entered.tasks[t]);
                }
            }
        }

        /** What a run gives hangs on what stands now alone, so it is computed at once and kept until the span ends. */
        private void beginRun(Task task) {
            Run run = task.run;
            compute(task, said, run.saidGiven);
            compute(task, seen[task.node], run.seenGiven);
            run.begin(run.told == Run.NOTHING_TOLD ? task.worst : run.told, tick + task.span);
            run.told = Run.NOTHING_TOLD;
            runsDone += run.left == 0 ? 1 : 0;
        }

        private void compute(Task task, int[] ports, int[] given) {
            System.arraycopy(ports, 0, given, 0, MOST_PORTS);
            program.code.follow(task.from, task.to, ports, sensed, given);
        }

        private void sendMessage(Mode current) {
            Task sender = current.senderAt[tick];
            if (sender != null && sender.run.left == 0) {
                sender.run.sent |= 1 << current.portAt[tick];
                messagesSent++;
            }
        }

        private void runNode(int node) {
            Task task = program.modes[mode].firstToRun(node);
            ran[node] = task == null ? -1 : task.number;
            if (task != null) {
                task.run.left--;
                runsDone += task.run.left == 0 ? 1 : 0;
            }
        }
    }
}
