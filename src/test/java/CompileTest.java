import java.util.NoSuchElementException;

/** Promise 4: compile. In a text that has a fault, ^ stands ahead of the token whose place is told. */
public final class CompileTest {
    public static void main(String[] args) {
        tokens();
        declarations();
        modes();
        tasks();
        assignments();
        blocks();
        expressions();
        switches();
        slots();
        limits();
        afterwards();
        oneObject();
        Due.close();
    }

    private static void good(String text) {
        Due.same("compile of " + text, Due.compiled(new LogicalTimes(), text), 0);
    }

    private static void bad(String marked) {
        int place = marked.indexOf('^');
        String text = marked.substring(0, place) + marked.substring(place + 1);
        Due.same("compile of " + marked, Due.compiled(new LogicalTimes(), text), place + 1);
    }

    /** Statements of a task, with a port p, a port q and a sensor s. */
    private static String inTask(String statements) {
        return "port p=0;port q=0;sensor s;mode M 12{task t 1 on 0{" + statements + "}}";
    }

    private static void tokens() {
        bad("^");
        bad("  \t\r\n^");
        good("\tmode\nA\r120 { } ");
        bad("mode A^\u000b5{}");
        bad("mode A 5{}^\u0000");
        bad("mode A 5{}^\u00ff");
        bad("mode A^_ 5{}");
        bad("mode ^_A 5{}");
        good("mode abcdefgh 5{}");
        good("mode A1b2C3d4 5{}");
        bad("mode ^abcdefghi 5{}");
        bad("mode A 5{}^abcdefghi");
        good("mode A 000005{}");
        bad("mode A ^0000005{}");
        bad("mode A 5^x{}");
        bad("mode A 5^mode{}");
        bad("mode A 5{task t 1^on 0{}}");
        bad("mode A 5{switch 1^if 1 to A;}");
        bad("mode A 5{switch 1 if 1^to A;}");
        good("mode A 5{switch 1 if(1)to A;}");
        good("mode aAzZ 5{}");
        good("mode Z09 5{}mode z90 5{}");
        bad("mode A5^{}");
        bad("mode A ^999999x{}");
        for (String word : "port sensor mode task on if else repeat switch to slots".split(" ")) {
            bad("mode ^" + word + " 5{}");
            bad(inTask("x=^" + word + ";"));
        }
        good("mode Port 5{}");
        good("mode ports 5{}");
        bad("^modeA 5{}");
    }

    private static void declarations() {
        good("port p=0;sensor s;port q=999999;mode A 1{}");
        bad("port ^=1;mode A 1{}");
        bad("port p^;mode A 1{}");
        bad("port p=^-1;mode A 1{}");
        bad("port p=^q;mode A 1{}");
        bad("port p=1^mode A 1{}");
        bad("port p=^1000000;mode A 1{}");
        bad("sensor s^=1;mode A 1{}");
        bad("sensor ^1;mode A 1{}");
        bad("port p=1;port ^p=1;mode A 1{}");
        bad("port p=1;sensor ^p;mode A 1{}");
        bad("sensor p;port ^p=1;mode A 1{}");
        bad("port p=1;^");
        bad("port p=1;^task");
        bad("mode A 1{}^port p=1;");
    }

    private static void modes() {
        good("port A=1;mode A 1{task A 1 on 0{B=1;}}mode B 1{task B 1 on 0{}}");
        bad("mode A ^0{}");
        bad("mode A ^121{}");
        good("mode A 1{}mode B 120{}");
        bad("mode A 1{}mode ^A 1{}");
        bad("mode A 1^}");
        bad("mode A 1{^");
        bad("mode A 1{}^;");
        bad("mode A 1{}mode^");
        bad("mode A 1{^x=1;}");
        bad("mode A 4{switch 1 if 1 to A;^task t 1 on 0{}}");
        bad("mode A 4{slots 1;^switch 1 if 1 to A;}");
        bad("mode A 4{slots 1;^slots 2;}");
        good("mode A 4{task t 1 on 0{}switch 1 if 1 to A;slots 1;}");
    }

    private static void tasks() {
        good("mode A 12{task a 1 on 0{}task b 12 on 3{}task c 4 on 1{}}");
        bad("mode A 12{task a ^5 on 0{}}");
        bad("mode A 12{task a ^0 on 0{}}");
        bad("mode A 12{task a ^24 on 0{}}");
        bad("mode A 12{task a 1 on ^4{}}");
        bad("mode A 12{task a 1 ^to 0{}}");
        bad("mode A 12{task ^1 on 0{}}");
        bad("mode A 12{task a^{}}");
        bad("mode A 12{task a 1 on 0^;}");
        bad("mode A 12{task a 1 on 0{}task ^a 1 on 0{}}");
        bad("mode A 12{task a 1 on 0{}}mode B 1{task ^a 1 on 0{}}");
        bad("mode A 12{task a 1 on 0{^");
    }

    private static void assignments() {
        good(inTask("p=p;x=1;p=x;x=x+s;"));
        bad(inTask("^s=1;"));
        bad(inTask("x^+1;"));
        bad(inTask("x=1^}"));
        bad(inTask("x=^;"));
        bad(inTask("x=^y;"));
        bad(inTask("x=^x+1;"));
        bad(inTask("x=1;y=x+^z;z=1;"));
        bad(inTask("^1=x;"));
        good(inTask("if s{x=1;}else{p=x;}"));
        good(inTask("t=1;M=t;"));
        good("port p=0;mode A 1{task a 1 on 0{p=1;p=2;}}mode B 1{task b 1 on 1{p=3;}}");
        bad("port p=0;mode A 1{task a 1 on 0{p=1;}task b 1 on 0{^p=2;}}");
        bad("mode A 1{task a 1 on 0{x=1;}task b 1 on 0{y=^x;}}");
        good(inTask("a=1;b=1;c=1;d=1;e=1;f=1;a=f;p=1;q=1;"));
        bad(inTask("a=1;b=1;c=1;d=1;e=1;f=1;a=1;^g=1;"));
        good("mode A 1{task a 1 on 0{a=1;b=1;c=1;d=1;}task b 1 on 0{e=1;f=1;g=1;h=1;}}");
    }

    private static void blocks() {
        good(inTask("if s{}if s{}else{}repeat 1{}repeat 9{}"));
        bad(inTask("if^{}"));
        bad(inTask("if s^;"));
        bad(inTask("^else{}"));
        bad(inTask("if s{}else ^x=1;"));
        bad(inTask("if s{}else{}^else{}"));
        bad(inTask("repeat ^0{}"));
        bad(inTask("repeat ^10{}"));
        bad(inTask("repeat ^s{}"));
        bad(inTask("repeat 2^;"));
        bad(inTask("if s{^;}"));
        good(inTask("if 1{repeat 1{if 1{}else{if 1{repeat 1{}}}}}"));
        bad(inTask("if 1{repeat 1{if 1{}else{if 1{repeat 1{if 1^{}}}}}}"));
        bad(inTask("if 1{if 1{if 1{if 1{if 1{}else{if 1^{}}}}}}"));
    }

    private static void expressions() {
        for (String e : "1 p s -p --p 1--1 (p) ((p)) -(p<s) 1+2*3/4%5-6 p<s p+1>s-1 (p<s)<1 p<(s>1) -1*-1".split(" ")) {
            good(inTask("p=" + e + ";"));
            good("port p=0;sensor s;mode M 1{switch 1 if " + e + " to M;}");
        }
        bad(inTask("p=^;"));
        bad(inTask("p=^+1;"));
        bad(inTask("p=1+^;"));
        bad(inTask("p=1<s^<2;"));
        bad(inTask("p=1<s^>2;"));
        bad(inTask("p=(1^;"));
        bad(inTask("p=(^);"));
        bad(inTask("p=1^);"));
        bad(inTask("p=1 ^1;"));
        bad(inTask("p=s^(1);"));
        bad(inTask("p=1^=1;"));
        bad(inTask("p=^if;"));
        bad(inTask("p=12^a;"));
    }

    private static void switches() {
        good("mode A 6{switch 3 if 1 to B;}mode B 1{}");
        good("mode A 12{task a 6 on 0{}task b 4 on 0{}switch 2 if 1 to A;}");
        bad("mode A 6{switch ^4 if 1 to A;}");
        bad("mode A 6{switch ^0 if 1 to A;}");
        bad("mode A 12{task a 6 on 0{}task b 4 on 0{}switch ^4 if 1 to A;}");
        bad("mode A 6{switch 1 ^to A;}");
        bad("mode A 6{switch 1 if 1^;}");
        bad("mode A 6{switch 1 if 1 to ^1;}");
        bad("mode A 6{switch 1 if 1 to ^on;}");
        bad("mode A 6{switch 1 if 1 to A^}");
        bad("mode A 6{task a 1 on 0{x=1;}switch 1 if ^x to A;}");
        bad("mode A 6{switch 1 if ^A to A;}");
        bad("mode A 6{switch 1 if 1 to B;switch 1 if 1 to ^C;}mode B 1{switch 1 if 1 to D;}");
        bad("mode A 6{switch 1 if 1 to C;}mode B ^0{}");
        bad("mode A 6{switch 1 if 1 to C;}^x");
        bad("port C=1;mode A 6{task D 1 on 0{}switch 1 if 1 to ^D;}");
    }

    private static void slots() {
        good("mode A 6{slots 0;}");
        good("mode A 6{slots 0,1,5;}");
        good("mode A 3{slots 0,1,2;}");
        bad("mode A 6{slots^;}");
        bad("mode A 6{slots 1,^1;}");
        bad("mode A 6{slots 3,^2;}");
        bad("mode A 6{slots ^6;}");
        bad("mode A 3{slots 0,1,2,^3;}");
        bad("mode A 6{slots 1,^;}");
        bad("mode A 6{slots 1 ^2;}");
        bad("mode A 6{slots 1^}");
    }

    private static void limits() {
        StringBuilder ports = new StringBuilder();
        for (int i = 0; i < 12; i++) {
            ports.append("port p").append(i).append("=1;");
        }
        String sensors = "sensor a;sensor b;sensor c;sensor d;";
        good(ports + sensors + "mode A 1{}");
        bad(ports + sensors + "^port z=1;mode A 1{}");
        bad(ports + "sensor a;^port z=1;mode A 1{}");
        bad(sensors + "^sensor z;mode A 1{}");
        bad(ports + sensors + "^sensor z;mode A 1{}");

        String fourModes = "mode A 1{}mode B 1{}mode C 1{}mode D 1{}";
        good(fourModes);
        bad(fourModes + "^mode E 1{}");

        StringBuilder six = new StringBuilder("mode A 1{");
        for (int i = 0; i < 6; i++) {
            six.append("task t").append(i).append(" 1 on 0{}");
        }
        good(six + "}");
        bad(six + "^task z 1 on 0{}}");

        StringBuilder all = new StringBuilder();
        for (int i = 0; i < 23; i++) {
            all.append(i % 6 == 0 ? "mode M" + i + " 1{" : "").append("task t").append(i).append(" 1 on 0{}");
            all.append(i % 6 == 5 ? "}" : "");
        }
        good(all + "task t23 1 on 0{}}");
        bad(all + "task ^t22 1 on 0{}}");
        bad(all + "task ^t0 1 on 0{}}");

        String fourSwitches = "mode A 1{" + "switch 1 if 1 to A;".repeat(4);
        good(fourSwitches + "}");
        bad(fourSwitches + "^switch 1 if 1 to A;}");

        good(inTask("x=0;".repeat(150)));
        bad(inTask("x=0;".repeat(150) + "^x=0;"));
        bad(inTask("if 1{" + "x=0;".repeat(149) + "^if 1{}}"));
        String seventyFive = "{" + "x=0;".repeat(75) + "}";
        good("mode A 1{task a 1 on 0" + seventyFive + "}mode B 1{task b 1 on 0" + seventyFive + "}");
        bad("mode A 1{task a 1 on 0" + seventyFive + "}mode B 1{task b 1 on 0" + seventyFive + "task c 1 on 0{^repeat 1{}}}");

        good(inTask("p=" + "1+".repeat(29) + "-1;"));
        bad(inTask("p=" + "1+".repeat(30) + "^1;"));
        bad(inTask("p=" + "1+".repeat(29) + "-1^+1;"));
        bad(inTask("p=(" + "1+".repeat(29) + "1^);"));
        good(inTask("if " + "1+".repeat(29) + "-1{p=" + "1+".repeat(29) + "-1;}"));
        good("mode A 1{switch 1 if " + "1+".repeat(29) + "-1 to A;}");
        bad("mode A 1{switch 1 if " + "1+".repeat(30) + "^1 to A;}");
        String sixty = "1+".repeat(29) + "-1";
        good("mode A 1{task t 1 on 0{x=" + sixty + ";}" + ("switch 1 if " + sixty + " to A;").repeat(2) + "}");

        good(inTask("p=" + "-".repeat(8) + "1;"));
        bad(inTask("p=" + "-".repeat(8) + "^-1;"));
        good(inTask("p=" + "(".repeat(8) + "1-1" + ")".repeat(8) + ";"));
        bad(inTask("p=" + "(".repeat(8) + "^(1" + ")".repeat(9) + ";"));
        bad(inTask("p=" + "-(".repeat(4) + "^-1" + ")".repeat(4) + ";"));
        good(inTask("p=" + "-(".repeat(4) + "1" + ")".repeat(4) + "--1;"));

        good(inTask("repeat 9{repeat 7{x=1;x=2;}}x=1;x=1;"));
        bad(inTask("repeat 9{repeat 7{x=1;x=2;}}x=1;x=1;x=1;^"));
        bad(inTask("if 1{repeat 9{repeat 7{x=1;x=2;}}}else{x=1;}x=1;x=1;^"));
        good(inTask("if 1{repeat 9{repeat 7{x=1;x=2;}}}else{x=1;}x=1;"));
    }

    private static void afterwards() {
        LogicalTimes x = Due.run("port p=3;sensor s;mode A 5{task t 1 on 0{p=1;}}");
        Due.same("it runs", x.denoted(0), 3);
        Due.same("compile of nothing", x.compile(), 1);
        for (int what = 0; what <= 4; what++) {
            Due.same("no program: count(" + what + ")", x.count(what), 0);
        }
        Due.refused("no program: state(0)", IllegalStateException.class, () -> x.state(0));
        Due.refused("no program: check(0)", NoSuchElementException.class, () -> x.check(0));
        Due.refused("no program: reset(0)", NoSuchElementException.class, () -> x.reset(0));
        Due.same("a fault in the second mode", Due.compiled(x, "port p=1;mode A 5{}mode B 0{}"), 27);
        Due.same("leaves no port", x.count(0), 0);
        Due.same("leaves no mode", x.count(2), 0);
        Due.same("a good one", Due.compiled(x, "mode A 5{}"), 0);
        Due.same("has one mode", x.count(2), 1);
        Due.refused("nothing runs yet", IllegalStateException.class, () -> x.tick(1));
    }

    /** What one text leaves in the object must not be seen by the next. */
    private static void oneObject() {
        LogicalTimes x = new LogicalTimes();
        String slots = "port p=1;mode A 4{task a 1 on 0{p=2;}task b 1 on 1{x=p;}slots 0,2;}";
        String noSlots = "port p=1;mode A 4{task a 1 on 0{p=2;}task b 1 on 1{x=p;}}";
        String misses = "port p=1;mode A 4{task a 1 on 0{p=2;repeat 9{}}task b 1 on 1{x=p;}slots 0,2;}";
        for (int n = 0; n < 3; n++) {
            Due.same("with slots", Due.compiled(x, slots), 0);
            Due.same("check with slots", x.check(0), 0);
            Due.same("without slots", Due.compiled(x, noSlots), 0);
            Due.same("check without slots", x.check(0), 1001);
            x.reset(0);
            x.tick(5);
            Due.same("nothing is sent without slots", x.port(1, 0), 1);
            Due.same("one that misses", Due.compiled(x, misses), 0);
            Due.same("check of one that misses", x.check(0), 1);
        }
        Due.same("one task of the two", Due.compiled(x, "port p=1;mode A 4{task a 1 on 0{p=2;}}"), 0);
        Due.same("has no message", x.count(4), 0);
        Due.same("a task that assigns nothing", Due.compiled(x, "port p=1;mode A 4{task a 1 on 0{}}"), 0);
        Due.same("has no port", x.task(0, 5), 0);
        Due.same("and no local", x.task(0, 4), 0);
        Due.same("blanks ahead", Due.compiled(x, "  mode A 5{}"), 0);
        Due.same("are gone with the text", x.compile(), 1);
        String wide = inTask("p=" + "1+".repeat(29) + "1;" + ("q=" + "1+".repeat(29) + "1;").repeat(24));
        for (int n = 0; n < 10; n++) {
            Due.same("a wide text", Due.compiled(x, wide), 0);
        }
        x.reset(0);
        x.tick(13);
        Due.same("p of the wide text", x.denoted(0), 30);
        Due.same("q of the wide text", x.denoted(1), 30);
    }
}
