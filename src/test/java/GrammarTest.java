/** Each line of the grammar with its limits, sentence by sentence: the last that may stand, and the first that can't. */
public final class GrammarTest {
    public static void main(String[] args) {
        modesOneToFour();
        behindTheLastMode();
        portsAtMostTwelve();
        sensorsAtMostFour();
        noNameTwice();
        periods();
        modesHaveDifferentNames();
        tasksAtMostSix();
        switchesAtMostFour();
        orderInAMode();
        partsOfThePeriod();
        nodes();
        tasksHaveDifferentNames();
        spans();
        repeats();
        bracesAtMostFive();
        localsAtMostSix();
        localsAreNotDeclared();
        portsOfOneTask();
        comparisons();
        operandsAndSigns();
        openAtMostEight();
        tokensAtMostSixty();
        namesInAnE();
        statementsAtMost150();
        partsOfASwitch();
        spansOfASwitch();
        switchesHaveNoLocals();
        targets();
        slotsRise();
        slotsBelowThePeriod();
        Due.close();
    }

    private static void modesOneToFour() {
        Due.sentence("MODES (one at least, four at most)");
        Texts.bad("^");
        Texts.bad("port p=1;sensor s;^");
        for (int modes = 1; modes <= 4; modes++) {
            Due.same("modes", Due.program(Texts.row(modes, m -> "mode M" + m + " 1{}")).count(2), modes);
        }
        String four = Texts.row(4, m -> "mode M" + m + " 1{}");
        Texts.bad(four + "^mode M4 1{}");
        Texts.bad(four + "^mode M0 1{}");
        Texts.bad(four + "^mode");
    }

    private static void behindTheLastMode() {
        Due.sentence("Behind the last mode, the text ends.");
        Texts.good("mode A 1{}");
        Texts.good("mode A 1{} \t\r\n");
        for (String token : "} { ; x 1 port task switch slots = (".split(" ")) {
            Texts.bad("mode A 1{}^" + token);
            Texts.bad("mode A 1{}mode B 1{} ^" + token);
            Texts.bad(Texts.row(4, m -> "mode M" + m + " 1{}") + "^" + token);
        }
        Texts.bad("mode A 1{}^port p=1;");
        Texts.bad("mode A 1{}^sensor s;");
    }

    private static void portsAtMostTwelve() {
        Due.sentence("at most twelve ports");
        for (int ports = 0; ports <= 12; ports++) {
            Due.same("ports", Due.program(Texts.row(ports, p -> "port p" + p + "=1;") + "mode A 1{}").count(0), ports);
        }
        String twelve = Texts.row(12, p -> "port p" + p + "=1;");
        Texts.bad(twelve + "^port p12=1;mode A 1{}");
        Texts.bad(twelve + "^port p0=1;mode A 1{}");
        Texts.bad(twelve + "sensor s;^port p12=1;mode A 1{}");
        Texts.bad("sensor a;sensor b;sensor c;sensor d;" + twelve + "^port p12=1;mode A 1{}");
    }

    private static void sensorsAtMostFour() {
        Due.sentence("at most .. four sensors");
        for (int sensors = 0; sensors <= 4; sensors++) {
            Due.same("sensors", Due.program(Texts.row(sensors, s -> "sensor s" + s + ";") + "mode A 1{}").count(1), sensors);
        }
        String four = Texts.row(4, s -> "sensor s" + s + ";");
        String twelve = Texts.row(12, p -> "port p" + p + "=1;");
        Texts.bad(four + "^sensor s4;mode A 1{}");
        Texts.bad(four + "port p=1;^sensor s4;mode A 1{}");
        Texts.good(twelve + four + "mode A 1{}");
        Texts.good(four + twelve + "mode A 1{}");
        Texts.bad(twelve + four + "^sensor s4;mode A 1{}");
        Texts.bad(twelve + four + "^port p12=1;mode A 1{}");
    }

    private static void noNameTwice() {
        Due.sentence("no name twice");
        Texts.good("port p=1;port q=1;sensor s;sensor u;mode A 1{}");
        Texts.bad("port p=1;port ^p=1;mode A 1{}");
        Texts.bad("port p=1;sensor ^p;mode A 1{}");
        Texts.bad("sensor p;port ^p=1;mode A 1{}");
        Texts.bad("sensor p;sensor ^p;mode A 1{}");
        Texts.bad("port p=1;port q=1;sensor s;port ^p=2;mode A 1{}");
        String sixteen = Texts.row(12, p -> "port p" + p + "=1;") + "sensor a;sensor b;sensor c;";
        Texts.good(sixteen + "sensor d;mode A 1{}");
        Texts.bad(sixteen + "sensor ^p11;mode A 1{}");
        Texts.bad(sixteen + "sensor ^a;mode A 1{}");
    }

    private static void periods() {
        Due.sentence("the number is its PERIOD, 1 to 120 ticks");
        for (int period = 1; period <= 120; period++) {
            Texts.good("mode A " + period + "{}");
        }
        for (int period : new int[] {0, 121, 122, 240, 256, 999999}) {
            Texts.bad("mode A ^" + period + "{}");
        }
        Texts.bad("mode A 1{}mode B ^0{}");
        Texts.bad("mode A 120{}mode B ^121{}");
    }

    private static void modesHaveDifferentNames() {
        Due.sentence("modes have different names");
        Texts.good("mode A 1{}mode B 1{}mode a 1{}mode AA 1{}");
        Texts.bad("mode A 1{}mode ^A 2{}");
        Texts.bad("mode A 1{}mode B 1{}mode C 1{}mode ^A 1{}");
        Texts.bad("mode A 1{}mode B 1{}mode C 1{}mode ^C 1{}");
        // Of modes alone: a port, a sensor, a task and a local may have the name of one.
        Texts.good("port A=1;sensor B;mode A 1{task A 1 on 0{C=1;}}mode B 1{task B 1 on 0{}}mode C 1{}");
    }

    private static String tasks(String from, int size) {
        return Texts.row(size, t -> "task " + from + t + " 1 on 0{}");
    }

    private static void tasksAtMostSix() {
        Due.sentence("none to six tasks");
        for (int tasks = 0; tasks <= 6; tasks++) {
            Due.same("tasks", Due.program("mode A 1{" + tasks("t", tasks) + "}").count(3), tasks);
        }
        Texts.bad("mode A 1{" + tasks("t", 6) + "^task t6 1 on 0{}}");
        Texts.bad("mode A 1{" + tasks("t", 6) + "^task t0 1 on 0{}}");
        Texts.bad("mode A 1{}mode B 1{" + tasks("t", 6) + "^task t6 1 on 0{}}");
        // Each mode may have six.
        String three = Texts.row(3, m -> "mode M" + m + " 1{" + tasks("t" + m, 6) + "}");
        Due.same("all tasks", Due.program(three + "mode M3 1{" + tasks("u", 6) + "}").count(3), 24);
        Texts.bad(three + "mode M3 1{" + tasks("u", 6) + "^task v 1 on 0{}}");
    }

    private static void switchesAtMostFour() {
        Due.sentence("at most four switches");
        String one = "switch 1 if 1 to A;";
        for (int switches = 0; switches <= 4; switches++) {
            Texts.good("mode A 1{" + one.repeat(switches) + "}");
        }
        Texts.bad("mode A 1{" + one.repeat(4) + "^" + one + "}");
        Texts.bad("mode A 1{" + tasks("t", 6) + one.repeat(4) + "^" + one + "}");
        // Each mode may have four.
        String four = one.repeat(4) + "}";
        Texts.good("mode A 1{" + four + "mode B 1{" + four + "mode C 1{" + four + "mode D 1{" + four);
        Texts.bad("mode A 1{" + four + "mode B 1{" + one.repeat(4) + "^" + one + "}");
    }

    private static void orderInAMode() {
        Due.sentence("{ TASKS SWITCHES and perhaps SLOTS }");
        String task = "task t 1 on 0{}";
        String exit = "switch 1 if 1 to A;";
        String slots = "slots 1;";
        for (String body : new String[] {"", task, exit, slots, task + exit, task + slots, exit + slots, task + exit + slots}) {
            Texts.good("mode A 4{" + body + "}");
        }
        Texts.bad("mode A 4{" + exit + "^" + task + "}");
        Texts.bad("mode A 4{" + slots + "^" + task + "}");
        Texts.bad("mode A 4{" + slots + "^" + exit + "}");
        Texts.bad("mode A 4{" + slots + "^slots 2;}");
        Texts.bad("mode A 4{" + task + exit + slots + "^" + task + "}");
    }

    private static void partsOfThePeriod() {
        Due.sentence("the first number goes into the period");
        for (int period : new int[] {1, 7, 12, 120}) {
            for (int number = 0; number <= 130; number++) {
                String ahead = "mode A " + period + "{task t ";
                if (number > 0 && period % number == 0) {
                    Texts.good(ahead + number + " on 0{}}");
                } else {
                    Texts.bad(ahead + "^" + number + " on 0{}}");
                }
            }
            Texts.bad("mode A " + period + "{task t ^999999 on 0{}}");
        }
    }

    private static void nodes() {
        Due.sentence("the second one is its node, 0 to 3");
        for (int node = 0; node <= 3; node++) {
            Due.same("node", Due.program("mode A 1{task t 1 on " + node + "{}}").task(0, 1), node);
        }
        for (int node : new int[] {4, 5, 10, 256, 999999}) {
            Texts.bad("mode A 1{task t 1 on ^" + node + "{}}");
        }
    }

    private static void tasksHaveDifferentNames() {
        Due.sentence("Names of tasks (of all modes) are different.");
        Texts.good("mode A 1{task a 1 on 0{}task b 1 on 0{}}mode B 1{task c 1 on 0{}task A 1 on 0{}}");
        Texts.bad("mode A 1{task a 1 on 0{}task ^a 1 on 0{}}");
        Texts.bad("mode A 1{task a 1 on 0{}}mode B 1{task ^a 1 on 0{}}");
        Texts.bad("mode A 1{task a 1 on 0{}task b 1 on 0{}}mode B 1{}mode C 1{task c 1 on 0{}task ^b 1 on 0{}}");
        String most = Texts.row(3, m -> "mode M" + m + " 1{" + tasks("t" + m, 6) + "}") + "mode M3 1{" + tasks("u", 5);
        Texts.good(most + "task v 1 on 0{}}");
        Texts.bad(most + "task ^u4 1 on 0{}}");
        Texts.bad(most + "task ^t00 1 on 0{}}");
    }

    private static void spans() {
        Due.sentence("Its SPANS, of period / number ticks each");
        Due.same("the shortest", Due.program("mode A 120{task t 120 on 0{}}").task(0, 2), 1);
        Due.same("the longest", Due.program("mode A 120{task t 1 on 0{}}").task(0, 2), 120);
        Due.same("one of four", Due.program("mode A 12{task t 4 on 0{}}").task(0, 2), 3);
        Due.same("the only tick", Due.program("mode A 1{task t 1 on 0{}}").task(0, 2), 1);
    }

    private static void repeats() {
        Due.sentence("repeat NUMBER { STATEMENTS } (1 to 9 times)");
        for (int times = 1; times <= 9; times++) {
            Texts.good(Texts.inTask("repeat " + times + "{}"));
        }
        for (int times : new int[] {0, 10, 11, 90, 999999}) {
            Texts.bad(Texts.inTask("repeat ^" + times + "{}"));
        }
    }

    private static void bracesAtMostFive() {
        Due.sentence("at most five { are open in a task besides its own");
        String[] opens = {"if 1", "repeat 1", "if 1{}else"};
        for (String open : opens) {
            for (int deep = 1; deep <= 5; deep++) {
                Texts.good(Texts.inTask((open + "{").repeat(deep) + "x=1;" + "}".repeat(deep)));
            }
            Texts.bad(Texts.inTask((open + "{").repeat(5) + open.replace("{}", "^{}")
                + (open.contains("{}") ? "" : "^") + "{" + "}".repeat(6)));
            for (String last : new String[] {"if 1", "repeat 1"}) {
                Texts.bad(Texts.inTask((open + "{").repeat(5) + last + "^{" + "}".repeat(6)));
            }
        }
        // An else whose if stands in the fifth braces would open the sixth.
        Texts.good(Texts.inTask("if 1{if 1{if 1{if 1{if 1{}else{}}}}}"));
        Texts.bad(Texts.inTask("if 1{if 1{if 1{if 1{if 1{if 1^{}else{}}}}}}"));
        // What is closed isn't open.
        Texts.good(Texts.inTask("if 1{if 1{}repeat 1{}if 1{}else{}}".repeat(3) + "if 1{}".repeat(10)));
        Texts.good("mode A 1{task a 1 on 0{if 1{if 1{if 1{if 1{if 1{}}}}}}task b 1 on 0{if 1{if 1{if 1{if 1{if 1{}}}}}}}");
        Texts.bad("mode A 1{task a 1 on 0{if 1{if 1{if 1{if 1{if 1{}}}}}}task b 1 on 0{if 1{if 1{if 1{if 1{if 1{if 1^{}}}}}}}}");
    }

    private static void localsAtMostSix() {
        Due.sentence("a LOCAL: .. at most six in a task");
        for (int locals = 0; locals <= 6; locals++) {
            Due.same("locals", Due.program(Texts.inTask(Texts.row(locals, i -> "x" + i + "=1;"))).task(0, 4), locals);
        }
        String six = Texts.row(6, i -> "x" + i + "=1;");
        Texts.bad(Texts.inTask(six + "^x6=1;"));
        Texts.bad(Texts.inTask(six + "if 1{^y=1;}"));
        Texts.bad(Texts.inTask("if 1{x0=1;x1=1;x2=1;}else{x3=1;x4=1;x5=1;}^x6=1;"));
        // The same again, ports and sensors are no further ones.
        Due.same("locals", Due.program(Texts.inTask(six + six + "p=x5;q=x0+s;")).task(0, 4), 6);
        // Each task may have six, and knows its own alone.
        Texts.good("mode A 1{task a 1 on 0{" + six + "}task b 1 on 0{" + Texts.row(6, i -> "y" + i + "=1;") + "}}");
        Texts.bad("mode A 1{task a 1 on 0{" + six + "}task b 1 on 0{" + six + "^x6=1;}}");
    }

    private static void localsAreNotDeclared() {
        Due.sentence("A name that is assigned is a port, or a LOCAL: any name that isn't declared");
        Texts.good(Texts.inTask("p=1;x=1;M=1;t=1;"));
        Due.same("locals", Due.program(Texts.inTask("p=1;x=1;M=1;t=1;")).task(0, 4), 3);
        Due.same("ports", Due.program(Texts.inTask("p=1;x=1;M=1;t=1;")).task(0, 5), 1);
        Texts.bad(Texts.inTask("^s=1;"));
        Texts.bad(Texts.inTask("x=1;if 1{^s=1;}"));
        Texts.bad(Texts.inTask("x0=1;x1=1;x2=1;x3=1;x4=1;x5=1;^s=1;"));
        Texts.bad(Texts.inTask("^1=1;"));
    }

    private static void portsOfOneTask() {
        Due.sentence("A port may be assigned by one task of a mode alone.");
        String head = "port p=0;port q=0;mode A 1{task a 1 on 0{p=1;}";
        Texts.good(head + "task b 1 on 0{q=p;}}");
        Texts.bad(head + "task b 1 on 0{^p=1;}}");
        Texts.bad(head + "task b 1 on 1{q=1;if 1{^p=1;}}}");
        Texts.bad(head + "task b 1 on 0{q=1;}task c 1 on 0{^p=1;}}");
        Texts.bad(head + "task b 1 on 0{q=1;}task c 1 on 0{^q=1;}}");
        Texts.good("port p=0;mode A 1{task a 1 on 0{p=1;p=2;if p{p=3;}else{p=4;}}}");
        Texts.good(head + "}mode B 1{task b 1 on 1{p=1;q=1;}}");
        Texts.bad(head + "}mode B 1{task b 1 on 1{p=1;}task c 1 on 1{^p=1;}}");
        // The last port of twelve as the first one.
        String twelve = Texts.row(12, p -> "port p" + p + "=1;");
        Texts.bad(twelve + "mode A 1{task a 1 on 0{p11=1;}task b 1 on 0{p10=1;^p11=1;}}");
        Texts.bad(twelve + "mode A 1{task a 1 on 0{" + Texts.row(12, p -> "p" + p + "=1;") + "}task b 1 on 0{^p0=1;}}");
        // A local of the same name in two tasks is one of each.
        Texts.good("mode A 1{task a 1 on 0{x=1;}task b 1 on 0{x=1;}}");
    }

    private static void comparisons() {
        Due.sentence("two sums with < or > between (1 or 0), or one alone");
        for (String e : "1 1+1 1<1 1>1 1+1<1-1 1*1>1/1 (1<1)<1 1<(1>1) (1<1)>(1>1) ((1<1)<1)<1 -(1<1)".split(" ")) {
            Texts.good(Texts.inTask("p=" + e + ";"));
            Texts.good(Texts.inTask("if " + e + "{}"));
        }
        Texts.bad(Texts.inTask("p=1<1^<1;"));
        Texts.bad(Texts.inTask("p=1<1^>1;"));
        Texts.bad(Texts.inTask("p=1>1+1^<1;"));
        Texts.bad(Texts.inTask("p=(1<1^<1);"));
        Texts.bad(Texts.inTask("p=(1<1)<1^<1;"));
        Texts.bad(Texts.inTask("if 1>1^>1{}"));
        Texts.bad("mode A 1{switch 1 if 1<1^>1 to A;}");
    }

    private static void operandsAndSigns() {
        Due.sentence("sums and differences of products, quotients and rests of numbers, names, ( E ) and - with one of these");
        for (String e : "1 p s -1 -p -(p) --p 1--1 1+-1 1*-1 (p) ((p)) 1+2*3/4%5-6".split(" ")) {
            Texts.good(Texts.inTask("p=" + e + ";"));
        }
        Texts.bad(Texts.inTask("p=^;"));
        Texts.bad(Texts.inTask("p=^+1;"));
        Texts.bad(Texts.inTask("p=1+^;"));
        Texts.bad(Texts.inTask("p=1+^+1;"));
        Texts.bad(Texts.inTask("p=-^;"));
        Texts.bad(Texts.inTask("p=-^*1;"));
        Texts.bad(Texts.inTask("p=(^);"));
        Texts.bad(Texts.inTask("p=(1^;"));
        Texts.bad(Texts.inTask("p=((1)^;"));
        Texts.bad(Texts.inTask("p=1^);"));
        Texts.bad(Texts.inTask("p=1 ^1;"));
        Texts.bad(Texts.inTask("p=s^(1);"));
        Texts.bad(Texts.inTask("p=1^=1;"));
    }

    private static void openAtMostEight() {
        Due.sentence("At most eight ( or - are open at a place.");
        for (int open = 1; open <= 8; open++) {
            Texts.good(Texts.inTask("p=" + "(".repeat(open) + "1" + ")".repeat(open) + ";"));
            Texts.good(Texts.inTask("p=" + "-".repeat(open) + "1;"));
        }
        Texts.bad(Texts.inTask("p=" + "(".repeat(8) + "^(1" + ")".repeat(9) + ";"));
        Texts.bad(Texts.inTask("p=" + "-".repeat(8) + "^-1;"));
        Texts.bad(Texts.inTask("p=" + "(".repeat(8) + "^-1" + ")".repeat(8) + ";"));
        Texts.bad(Texts.inTask("p=" + "-".repeat(8) + "^(1);"));
        Texts.good(Texts.inTask("p=" + "-(".repeat(4) + "1" + ")".repeat(4) + ";"));
        Texts.bad(Texts.inTask("p=" + "-(".repeat(4) + "^-1" + ")".repeat(4) + ";"));
        Texts.bad(Texts.inTask("p=" + "-(".repeat(4) + "^(1)" + ")".repeat(4) + ";"));
        Texts.bad(Texts.inTask("if " + "(".repeat(8) + "^(1" + ")".repeat(9) + "{}"));
        Texts.bad("mode A 1{switch 1 if " + "(".repeat(8) + "^(1" + ")".repeat(9) + " to A;}");
        // What is closed isn't open; a - is closed behind what it has, and one between two of these never opens.
        Texts.good(Texts.inTask("p=" + "(".repeat(8) + "1" + ")".repeat(8) + "+" + "(".repeat(8) + "1" + ")".repeat(8) + ";"));
        Texts.good(Texts.inTask("p=" + "-1-".repeat(12) + "1;"));
        Texts.good(Texts.inTask("p=" + "(".repeat(8) + "1-1-1" + ")".repeat(8) + ";"));
        Texts.good(Texts.inTask("p=" + "-".repeat(8) + "1" + "-" + "-".repeat(8) + "1;"));
        Texts.bad(Texts.inTask("p=" + "-".repeat(8) + "1" + "-" + "-".repeat(8) + "^-1;"));
        Texts.good(Texts.inTask("p=" + "(".repeat(6) + "-1*-(1)" + ")".repeat(6) + ";"));
        Texts.bad(Texts.inTask("p=" + "(".repeat(7) + "-1*-^(1)" + ")".repeat(7) + ";"));
    }

    private static void tokensAtMostSixty() {
        Due.sentence("a token of an E (above 60 in it)");
        String fiftyNine = "1+".repeat(29) + "1";
        Texts.good(Texts.inTask("p=" + fiftyNine + ";"));
        Texts.good(Texts.inTask("p=-" + fiftyNine + ";"));
        Texts.bad(Texts.inTask("p=--" + fiftyNine.substring(0, 58) + "^1;"));
        Texts.bad(Texts.inTask("p=" + fiftyNine + "+^1;"));
        Texts.bad(Texts.inTask("p=" + fiftyNine + "+^p;"));
        Texts.bad(Texts.inTask("p=" + fiftyNine + "+^s;"));
        Texts.bad(Texts.inTask("p=" + fiftyNine + "+^-1;"));
        Texts.bad(Texts.inTask("p=" + fiftyNine + "+^(1);"));
        for (String sign : "+ - * / % < >".split(" ")) {
            Texts.bad(Texts.inTask("p=-" + fiftyNine + "^" + sign + "1;"));
        }
        Texts.bad(Texts.inTask("p=(" + fiftyNine + "^);"));
        Texts.good(Texts.inTask("p=(-" + fiftyNine.substring(2) + ");"));
        Texts.good(Texts.inTask("if -" + fiftyNine + "{}"));
        Texts.bad(Texts.inTask("if " + fiftyNine + "+^1{}"));
        Texts.good("mode A 1{switch 1 if -" + fiftyNine + " to A;}");
        Texts.bad("mode A 1{switch 1 if " + fiftyNine + "+^1 to A;}");
        // Each E has its own sixty.
        String sixty = "-" + fiftyNine;
        Texts.good(Texts.inTask("p=" + sixty + ";if " + sixty + "{x=" + sixty + ";}else{q=" + sixty + ";}"));
        Texts.good("mode A 1{task t 1 on 0{x=" + sixty + ";}" + ("switch 1 if " + sixty + " to A;").repeat(4) + "}");
    }

    private static void namesInAnE() {
        Due.sentence("A name there is a port, a sensor, or a local of the task that is assigned by a statement whose ; "
            + "stands ahead of it.");
        Texts.good(Texts.inTask("x=p+q+s;x=x+1;"));
        Texts.bad(Texts.inTask("x=^y;"));
        Texts.bad(Texts.inTask("x=^x;"));
        Texts.bad(Texts.inTask("x=1+^x;"));
        Texts.bad(Texts.inTask("x=^y;y=1;"));
        Texts.bad(Texts.inTask("if ^x{x=1;}"));
        Texts.good(Texts.inTask("x=1;if x{}"));
        Texts.good(Texts.inTask("if s{x=1;p=x;}else{p=x;}q=x;"));
        Texts.bad(Texts.inTask("if s{p=^x;}else{x=1;}"));
        Texts.bad(Texts.inTask("repeat 2{p=^x;x=1;}"));
        Texts.good(Texts.inTask("repeat 2{x=1;p=x;}"));
        Texts.bad(Texts.inTask("p=^t;"));
        Texts.bad(Texts.inTask("p=^M;"));
        Texts.bad("mode A 1{task a 1 on 0{x=1;}task b 1 on 0{y=^x;}}");
        Texts.good("mode A 1{task a 1 on 0{x=1;}task b 1 on 0{x=1;y=x;}}");
        Texts.bad("mode A 1{task a 1 on 0{x=1;}}mode B 1{task b 1 on 0{if ^x{}}}");
    }

    private static void statementsAtMost150() {
        Due.sentence("the first token of a statement (above 150 in all)");
        Texts.good(Texts.inTask("x=0;".repeat(150)));
        Texts.bad(Texts.inTask("x=0;".repeat(150) + "^x=0;"));
        Texts.bad(Texts.inTask("x=0;".repeat(150) + "^y=0;"));
        Texts.bad(Texts.inTask("x=0;".repeat(150) + "^p=0;"));
        Texts.bad(Texts.inTask("x=0;".repeat(150) + "^if 1{}"));
        Texts.bad(Texts.inTask("x=0;".repeat(150) + "^repeat 1{}"));
        // What stands in braces counts too, and the if or repeat that has them.
        Texts.good(Texts.inTask("if 1{" + "x=0;".repeat(149) + "}"));
        Texts.bad(Texts.inTask("if 1{" + "x=0;".repeat(149) + "^x=0;}"));
        Texts.bad(Texts.inTask("if 1{" + "x=0;".repeat(149) + "}^x=0;"));
        Texts.bad(Texts.inTask("if 1{" + "x=0;".repeat(74) + "}else{" + "x=0;".repeat(75) + "^x=0;}"));
        Texts.bad(Texts.inTask("repeat 1{" + "x=0;".repeat(149) + "^repeat 1{}}"));
        Texts.good(Texts.inTask("if 1{}".repeat(150)));
        Texts.bad(Texts.inTask("if 1{}".repeat(150) + "^x=0;"));
        // In all: of all tasks of all modes.
        String fifty = "x=0;".repeat(50);
        String hundred = "mode A 1{task a 1 on 0{" + fifty + "}task b 1 on 0{" + fifty + "}}";
        Texts.good(hundred + "mode B 1{task c 1 on 0{" + fifty + "}task d 1 on 0{}}");
        Texts.bad(hundred + "mode B 1{task c 1 on 0{" + fifty + "^x=0;}}");
        Texts.bad(hundred + "mode B 1{task c 1 on 0{" + fifty + "}task d 1 on 0{^x=0;}}");
    }

    private static void partsOfASwitch() {
        Due.sentence("SWITCH: .. the number goes into the period");
        for (int period : new int[] {1, 7, 12, 120}) {
            for (int number = 0; number <= 130; number++) {
                String ahead = "mode A " + period + "{switch ";
                if (number > 0 && period % number == 0) {
                    Texts.good(ahead + number + " if 1 to A;}");
                } else {
                    Texts.bad(ahead + "^" + number + " if 1 to A;}");
                }
            }
            Texts.bad("mode A " + period + "{switch ^999999 if 1 to A;}");
        }
    }

    private static void spansOfASwitch() {
        Due.sentence("each span of the mode's tasks goes into period / number");
        // Spans of 4 and 6 go into 12 and 24 of the parts of 24.
        for (int number = 1; number <= 24; number++) {
            String ahead = "mode A 24{task a 6 on 0{}task b 4 on 0{}switch ";
            if (number <= 2) {
                Texts.good(ahead + number + " if 1 to A;}");
            } else {
                Texts.bad(ahead + "^" + number + " if 1 to A;}");
            }
        }
        Texts.good("mode A 6{task t 3 on 0{}switch 3 if 1 to A;}");
        Texts.bad("mode A 6{task t 3 on 0{}switch ^6 if 1 to A;}");
        Texts.good("mode A 6{task t 1 on 0{}switch 1 if 1 to A;}");
        Texts.bad("mode A 6{task t 1 on 0{}switch ^2 if 1 to A;}");
        Texts.bad("mode A 6{task a 6 on 0{}task b 3 on 0{}task c 6 on 0{}switch 3 if 1 to A;switch ^6 if 1 to A;}");
        // Of its own mode alone.
        Texts.good("mode A 6{task t 1 on 0{}}mode B 6{switch 6 if 1 to A;}");
    }

    private static void switchesHaveNoLocals() {
        Due.sentence("E without locals");
        Texts.good("port p=1;sensor s;mode A 6{task a 1 on 0{x=1;}switch 1 if p+s to A;}");
        Texts.bad("port p=1;sensor s;mode A 6{task a 1 on 0{x=1;}switch 1 if p+^x to A;}");
        Texts.bad("mode A 6{task a 1 on 0{x=1;}switch 1 if ^a to A;}");
        Texts.bad("mode A 6{switch 1 if ^A to A;}");
        // The task that follows has its own ones still.
        Texts.good("mode A 6{task a 1 on 0{x=1;}switch 1 if 1 to A;}mode B 6{task b 1 on 0{x=1;x=x;}}");
    }

    private static void targets() {
        Due.sentence("the name is that of a mode, perhaps a later one");
        Texts.good("mode A 6{switch 1 if 1 to A;switch 1 if 1 to B;}mode B 1{switch 1 if 1 to A;}");
        Texts.good("mode A 6{switch 1 if 1 to D;}mode B 1{}mode C 1{}mode D 1{}");
        Texts.bad("mode A 6{switch 1 if 1 to ^B;}");
        Texts.bad("port C=1;sensor E;mode A 6{task D 1 on 0{}switch 1 if 1 to ^C;}");
        Texts.bad("port C=1;sensor E;mode A 6{task D 1 on 0{}switch 1 if 1 to ^D;}");
        Texts.bad("port C=1;sensor E;mode A 6{task D 1 on 0{}switch 1 if 1 to ^E;}");
        Texts.bad("mode A 6{switch 1 if 1 to ^1;}");
        Texts.bad("mode A 6{switch 1 if 1 to ^;}");
    }

    private static void slotsRise() {
        Due.sentence("slots NUMBER , NUMBER .. ; rising");
        Texts.good("mode A 6{slots 0;}");
        Texts.good("mode A 6{slots 0,1;}");
        Texts.good("mode A 6{slots 0,1,2,3,4,5;}");
        Texts.good("mode A 6{slots 1,5;}");
        Texts.bad("mode A 6{slots 0,^0;}");
        Texts.bad("mode A 6{slots 1,^0;}");
        Texts.bad("mode A 6{slots 3,^3;}");
        Texts.bad("mode A 6{slots 3,^2;}");
        Texts.bad("mode A 6{slots 0,1,2,3,4,5,^5;}");
        Texts.bad("mode A 6{slots 0,5,^1;}");
        Texts.bad("mode A 6{slots^;}");
        Texts.bad("mode A 6{slots ^,1;}");
        Texts.bad("mode A 6{slots 1,^;}");
        Texts.bad("mode A 6{slots 1 ^2;}");
        Texts.bad("mode A 6{slots 1^}");
        Texts.bad("mode A 6{slots ^-1;}");
        // Each mode has its own.
        Texts.good("mode A 6{slots 4,5;}mode B 6{slots 0,1;}");
    }

    private static void slotsBelowThePeriod() {
        Due.sentence("slots .. below the period");
        for (int period : new int[] {1, 2, 6, 120}) {
            String all = Texts.row(period, tick -> (tick == 0 ? "" : ",") + tick);
            Texts.good("mode A " + period + "{slots " + (period - 1) + ";}");
            Texts.good("mode A " + period + "{slots " + all + ";}");
            Texts.bad("mode A " + period + "{slots ^" + period + ";}");
            Texts.bad("mode A " + period + "{slots " + all + ",^" + period + ";}");
            Texts.bad("mode A " + period + "{slots ^999999;}");
        }
        // A longer mode ahead of it leaves no room behind its own period.
        Texts.bad("mode A 120{slots 119;}mode B 6{slots ^6;}");
    }
}
