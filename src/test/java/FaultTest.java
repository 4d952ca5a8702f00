import java.util.NoSuchElementException;

/** Promise 4: compile, and the faults that it tells, with their places. The limits themselves stand in GrammarTest. */
public final class FaultTest {
    private static final String HEAD = "port p = 1 ; sensor s ;";
    private static final String IN_MODE = HEAD + " mode M 6 {";
    private static final String IN_TASK = IN_MODE + " task t 1 on 0 { x = 1 ;";
    /** What may stand somewhere: p is a port, s a sensor, x a local where there is one, and zz none of these. */
    private static final String ALL = String.join(" ", Texts.WORDS) + " " + String.join(" ", Texts.SIGNS) + " p s x zz 2";
    private static final String NAMES = "p s x zz";
    private static final String JOIN = "+ - * / %";
    private static final String COMPARE = "+ - * / % < >";
    private static final String OPERAND = "2 p s x ( -";
    private static final String STATEMENT = "if repeat } p x zz";
    private static final String IN_MODE_NEXT = "task switch slots }!";

    private static final String WHOLE = "port p = 1 ; sensor s ; mode M 12 { task a 2 on 0 { x = - ( p + s ) ; if x < 1 { p = x ; } "
        + "else { repeat 3 { p = 2 ; } } } task b 2 on 1 { y = p * 2 / 3 % 4 - 5 ; } switch 2 if p > 3 to M ; switch 1 if s to M ; "
        + "slots 2 , 5 , 11 ; } mode N 6 { }";

    public static void main(String[] args) {
        kindsInTheProgram();
        kindsInATask();
        kindsInStatements();
        kindsInAnE();
        kindsInSwitchesAndSlots();
        noTokenAtEachPlace();
        tooLongAtEachPlace();
        endAtEachPlace();
        endBehindBlanks();
        firstFault();
        worstAbove200();
        whenAllIsRead();
        textIsEmptyThen();
        noProgramThen();
        nothingRuns();
        places();
        textsInOneObject();
        wideTexts();
        Due.close();
    }

    /**
     * Behind what stands ahead, each token that is allowed makes the text end too soon (or, with ! behind it, makes it a
     * program), and each other one is a fault.
     */
    private static void kinds(String ahead, String allowed) {
        String padded = " " + allowed + " ";
        for (String token : ALL.split(" ")) {
            String text = ahead + " " + token + " ";
            if (padded.contains(" " + token + "! ")) {
                Texts.good(text);
            } else {
                Texts.fault(text, padded.contains(" " + token + " ") ? text.length() : ahead.length() + 1);
            }
        }
    }

    private static void kindsInTheProgram() {
        Due.sentence("the place of the token that can't stand there: by its kind (PROGRAM, DECLARATION, MODE)");
        kinds("", "port sensor mode");
        kinds("port", NAMES);
        kinds("port p", "=");
        kinds("port p =", "2");
        kinds("port p = 1", ";");
        kinds("port p = 1 ;", "port sensor mode");
        kinds("sensor", NAMES);
        kinds("sensor s", ";");
        kinds("sensor s ;", "port sensor mode");
        kinds(HEAD + " mode", NAMES);
        kinds(HEAD + " mode M", "2");
        kinds(HEAD + " mode M 6", "{");
        kinds(IN_MODE, IN_MODE_NEXT);
        kinds(IN_MODE + " }", "mode");
        kinds("mode A 1 { } mode B 1 { } mode C 1 { } mode D 1 { }", "");
    }

    private static void kindsInATask() {
        Due.sentence("the place of the token that can't stand there: by its kind (TASK)");
        kinds(IN_MODE + " task", NAMES);
        kinds(IN_MODE + " task t", "2");
        kinds(IN_MODE + " task t 1", "on");
        kinds(IN_MODE + " task t 1 on", "2");
        kinds(IN_MODE + " task t 1 on 0", "{");
        kinds(IN_MODE + " task t 1 on 0 {", STATEMENT);
        kinds(IN_MODE + " task t 1 on 0 { }", IN_MODE_NEXT);
    }

    private static void kindsInStatements() {
        Due.sentence("the place of the token that can't stand there: by its kind (STATEMENT)");
        kinds(IN_TASK, STATEMENT);
        kinds(IN_TASK + " p", "=");
        kinds(IN_TASK + " zz", "=");
        kinds(IN_TASK + " p =", OPERAND);
        kinds(IN_TASK + " p = 1", COMPARE + " ;");
        kinds(IN_TASK + " p = 1 ;", STATEMENT);
        kinds(IN_TASK + " if", OPERAND);
        kinds(IN_TASK + " if 1", COMPARE + " {");
        kinds(IN_TASK + " if 1 {", STATEMENT);
        kinds(IN_TASK + " if 1 { p = 1 ;", STATEMENT);
        kinds(IN_TASK + " if 1 { }", STATEMENT + " else");
        kinds(IN_TASK + " if 1 { } else", "{");
        kinds(IN_TASK + " if 1 { } else {", STATEMENT);
        kinds(IN_TASK + " if 1 { } else { }", STATEMENT);
        kinds(IN_TASK + " repeat", "2");
        kinds(IN_TASK + " repeat 1", "{");
        kinds(IN_TASK + " repeat 1 {", STATEMENT);
        kinds(IN_TASK + " repeat 1 { }", STATEMENT);
        kinds(IN_TASK + " if 1 { repeat 1 { } }", STATEMENT + " else");
        kinds(IN_TASK + " repeat 1 { if 1 { } }", STATEMENT);
    }

    private static void kindsInAnE() {
        Due.sentence("the place of the token that can't stand there: by its kind (E)");
        for (String sign : COMPARE.split(" ")) {
            kinds(IN_TASK + " p = 1 " + sign, OPERAND);
            kinds(IN_TASK + " p = ( 1 " + sign, OPERAND);
        }
        for (String operand : "1 p s x -1 (1) -x".split(" ")) {
            kinds(IN_TASK + " p = " + operand, COMPARE + " ;");
            kinds(IN_TASK + " p = 1 + " + operand, COMPARE + " ;");
            kinds(IN_TASK + " p = 1 * " + operand, COMPARE + " ;");
            kinds(IN_TASK + " p = 1 < " + operand, JOIN + " ;");
            kinds(IN_TASK + " p = 1 > 1 - " + operand, JOIN + " ;");
            kinds(IN_TASK + " p = ( " + operand, COMPARE + " )");
            kinds(IN_TASK + " p = ( 1 > " + operand, JOIN + " )");
            kinds(IN_TASK + " p = 1 < ( " + operand, COMPARE + " )");
            kinds(IN_TASK + " if 1 < " + operand, JOIN + " {");
        }
        kinds(IN_TASK + " p = -", OPERAND);
        kinds(IN_TASK + " p = (", OPERAND);
        kinds(IN_TASK + " p = ( 1 < 1 )", COMPARE + " ;");
        kinds(IN_TASK + " p = ( ( 1 )", COMPARE + " )");
    }

    private static void kindsInSwitchesAndSlots() {
        Due.sentence("the place of the token that can't stand there: by its kind (SWITCH, SLOTS)");
        kinds(IN_MODE + " switch", "2");
        kinds(IN_MODE + " switch 1", "if");
        kinds(IN_MODE + " switch 1 if", "2 p s ( -");
        kinds(IN_MODE + " switch 1 if 1", COMPARE + " to");
        kinds(IN_MODE + " switch 1 if 1 < 1", JOIN + " to");
        kinds(IN_MODE + " switch 1 if 1 to", NAMES);
        kinds(IN_MODE + " switch 1 if 1 to M", ";");
        kinds(IN_MODE + " switch 1 if 1 to M ;", "switch slots }!");
        kinds(IN_MODE + " slots", "2");
        kinds(IN_MODE + " slots 1", ", ;");
        kinds(IN_MODE + " slots 1 ,", "2");
        kinds(IN_MODE + " slots 1 , 2", ", ;");
        kinds(IN_MODE + " slots 1 ;", "}!");
    }

    /** The text, with another token in the stead of the one that begins at the place. */
    private static String replaced(String text, int place, String token) {
        int behind = text.indexOf(' ', place);
        return text.substring(0, place) + token + (behind < 0 ? "" : text.substring(behind));
    }

    private static int next(String text, int place) {
        int blank = text.indexOf(' ', place);
        return blank < 0 ? text.length() : blank + 1;
    }

    private static void noTokenAtEachPlace() {
        Due.sentence("the place of a byte that begins no token");
        Texts.good(WHOLE);
        for (int place = 0; place < WHOLE.length(); place = next(WHOLE, place)) {
            Texts.fault(replaced(WHOLE, place, "_"), place);
            Texts.fault(replaced(WHOLE, place, "\u00e1"), place);
            Texts.fault(replaced(WHOLE, place, "\u0000"), place);
        }
    }

    private static void tooLongAtEachPlace() {
        Due.sentence("the place .. of a name or number that is too long");
        for (int place = 0; place < WHOLE.length(); place = next(WHOLE, place)) {
            Texts.fault(replaced(WHOLE, place, "abcdefghi"), place);
            Texts.fault(replaced(WHOLE, place, "0000001"), place);
        }
    }

    private static void endAtEachPlace() {
        Due.sentence("the text's end, if it comes too soon");
        int firstModeEnds = WHOLE.indexOf(" mode N");
        for (int place = 0; place < WHOLE.length(); place = next(WHOLE, place)) {
            String cut = WHOLE.substring(0, Math.max(0, place - 1));
            if (cut.length() == firstModeEnds) {
                Texts.good(cut);
            } else {
                Texts.fault(cut, cut.length());
            }
        }
    }

    private static void endBehindBlanks() {
        Due.sentence("the text's end: behind its last byte, blanks too");
        Texts.bad("^");
        Texts.bad(" ^");
        Texts.bad("\t\r\n ^");
        Texts.bad("mode A 5{^");
        Texts.bad("mode A 5{   ^");
        Texts.bad("mode A 5 \n^");
        Texts.bad("port p=1;\r\n^");
    }

    private static void firstFault() {
        Due.sentence("the first FAULT is told");
        Texts.bad("port p=1;port ^p=1;mode A 0{}");
        Texts.bad("mode A ^0{task t 0 on 9{}}_");
        Texts.bad("mode A 6{task t 1 on ^4{s=1;}}");
        Texts.bad("mode A 6{task t 1 on 0{x=^y;}}mode A 6{}");
        Texts.bad("mode A 6{task t 1 on 0{x=1;}task ^t 5 on 0{}}");
        Texts.bad("mode A 6{task t 1 on 0{}task u ^5 on 4{}}");
        Texts.bad("mode A 6{^_ 0000000 abcdefghijk");
        Texts.bad("mode A 6{slots 3,^2,1,0;}mode A 6{}");
        Texts.bad("mode ^abcdefghijk 0000000{");
    }

    private static void worstAbove200() {
        Due.sentence("the } of a task whose WORST is above 200");
        Texts.good(Texts.inTask("repeat 9{repeat 7{x=1;x=2;}}x=1;x=1;"));
        Texts.bad(Texts.inTask("repeat 9{repeat 7{x=1;x=2;}}x=1;x=1;x=1;^"));
        Texts.bad(Texts.inTask("repeat 9{repeat 7{x=1;x=2;}}x=1;x=1;if 1{}^"));
        Texts.good(Texts.inTask("if 1{repeat 9{repeat 7{x=1;x=2;}}}else{x=1;}x=1;"));
        Texts.bad(Texts.inTask("if 1{repeat 9{repeat 7{x=1;x=2;}}}else{x=1;}x=1;x=1;^"));
        Texts.bad(Texts.inTask("if 1{x=1;}else{repeat 9{repeat 7{x=1;x=2;}}}x=1;x=1;^"));
        // Five repeats in each other are the most of all; a fault within them comes first.
        Texts.bad(Texts.inTask("repeat 9{repeat 9{repeat 9{repeat 9{repeat 9{" + "x=1;".repeat(145) + "}}}}}^"));
        Texts.bad(Texts.inTask("repeat 9{repeat 9{repeat 9{^s=1;}}}"));
        // Each task has its own.
        String most = "{repeat 9{repeat 7{x=1;x=2;}}x=1;x=1;}";
        Texts.good("mode A 1{task a 1 on 0" + most + "task b 1 on 0" + most + "}");
        Texts.bad("mode A 1{task a 1 on 0" + most + "task b 1 on 0{repeat 9{repeat 7{x=1;x=2;}}x=1;x=1;x=1;^}}");
    }

    private static void whenAllIsRead() {
        Due.sentence("When all is read: the name behind the first to that is no mode's.");
        Texts.bad("mode A 6{switch 1 if 1 to ^C;}");
        Texts.bad("mode A 6{switch 1 if 1 to B;switch 1 if 1 to ^C;}mode B 1{switch 1 if 1 to D;}");
        Texts.bad("mode A 6{switch 1 if 1 to B;}mode B 1{switch 1 if 1 to A;switch 1 if 1 to ^D;switch 1 if 1 to E;}");
        Texts.bad("mode A 6{switch 1 if 1 to C;}mode B ^0{}");
        Texts.bad("mode A 6{switch 1 if 1 to C;}^x");
        Texts.bad("mode A 6{switch 1 if 1 to C;}mode B 1{^");
        Texts.bad("mode A 6{switch 1 if 1 to C;}mode B 1{}^_");
        Texts.bad("mode A 6{switch 1 if 1 to C^}");
    }

    private static void textIsEmptyThen() {
        Due.sentence("Compiles the text, which is empty then");
        LogicalTimes x = Due.program("mode A 5{}");
        Due.same("compile again", x.compile(), 1);
        Due.same("the program is gone", x.count(2), 0);
        Due.same("a text with a fault", Due.compiled(x, "  mode A 0{}"), 10);
        Due.same("compile again", x.compile(), 1);
        Due.same("blanks", Due.compiled(x, "     "), 6);
        Due.same("compile again", x.compile(), 1);
    }

    private static void noProgramThen() {
        Due.sentence("1 and the place of the fault (then there is no program)");
        String[] faulty = {"", "_", "port p=1;sensor s;", "port p=1;sensor s;mode A 5{task t 1 on 0{p=1;}}mode B 0{}",
            "port p=1;mode A 5{task t 1 on 0{p=1;}switch 1 if 1 to B;}", "mode A 5{}x"};
        for (String text : faulty) {
            LogicalTimes x = Due.run("port p=3;port q=1;sensor s;mode A 5{task t 1 on 0{p=1;}task u 1 on 1{q=p;}}mode B 5{}");
            Due.same("messages ahead", x.count(4), 1);
            Due.holds("a fault", Due.compiled(x, text) > 0);
            for (int what = 0; what <= 4; what++) {
                Due.same("count(" + what + ")", x.count(what), 0);
            }
            Due.refused("task(0, 0)", NoSuchElementException.class, () -> x.task(0, 0));
            Due.refused("check(0)", NoSuchElementException.class, () -> x.check(0));
            Due.refused("slack(0)", NoSuchElementException.class, () -> x.slack(0));
            Due.refused("slot(0, 0)", NoSuchElementException.class, () -> x.slot(0, 0));
            Due.refused("reset(0)", NoSuchElementException.class, () -> x.reset(0));
            Due.same("a good text", Due.compiled(x, "mode A 5{}"), 0);
            Due.same("modes", x.count(2), 1);
            Due.same("tasks", x.count(3), 0);
        }
    }

    private static void nothingRuns() {
        Due.sentence("Nothing runs.");
        for (String text : new String[] {"mode A 5{}", "mode A 0{}", ""}) {
            LogicalTimes x = Due.run("port p=3;sensor s;mode A 5{task t 1 on 0{p=1;}}");
            x.tick(3);
            Due.same("it runs", x.denoted(0), 3);
            Due.compiled(x, text);
            Due.refused("takes", IllegalStateException.class, () -> x.takes(0, 0));
            Due.refused("sensor", IllegalStateException.class, () -> x.sensor(0, 0));
            Due.refused("tick", IllegalStateException.class, () -> x.tick(1));
            Due.refused("port", IllegalStateException.class, () -> x.port(0, 0));
            Due.refused("denoted", IllegalStateException.class, () -> x.denoted(0));
            Due.refused("state", IllegalStateException.class, () -> x.state(0));
            Due.refused("running", IllegalStateException.class, () -> x.running(0));
        }
    }

    private static void places() {
        Due.sentence("1 and the place of the fault");
        Due.same("the first place", Due.compiled(new LogicalTimes(), "_"), 1);
        Due.same("the end of an empty text", new LogicalTimes().compile(), 1);
        Due.same("the last place", Due.compiled(new LogicalTimes(), " ".repeat(2999) + "_"), 3000);
        Due.same("the end of the longest text", Due.compiled(new LogicalTimes(), " ".repeat(3000)), 3001);
        Due.same("a name that reaches to the end", Due.compiled(new LogicalTimes(), " ".repeat(2991) + "abcdefghi"), 2992);
        Due.same("3000 letters", Due.compiled(new LogicalTimes(), "m".repeat(3000)), 1);
        Due.same("3000 digits", Due.compiled(new LogicalTimes(), "1".repeat(3000)), 1);
        Due.same("3000 signs", Due.compiled(new LogicalTimes(), ";".repeat(3000)), 1);
    }

    private static void textsInOneObject() {
        Due.sentence("Compiles the text: whatever another one has left");
        String slots = "port p=1;mode A 4{task a 1 on 0{p=2;}task b 1 on 1{x=p;}slots 0,2;}";
        String noSlots = "port p=1;mode A 4{task a 1 on 0{p=2;}task b 1 on 1{x=p;}}";
        String misses = "port p=1;mode A 4{task a 1 on 0{p=2;repeat 9{}}task b 1 on 1{x=p;}slots 0,2;}";
        LogicalTimes x = new LogicalTimes();
        for (int n = 0; n < 3; n++) {
            Due.same("with slots", Due.compiled(x, slots), 0);
            Due.same("check with slots", x.check(0), 0);
            Due.same("without slots", Due.compiled(x, noSlots), 0);
            Due.same("check without slots", x.check(0), 1001);
            x.reset(0);
            x.tick(5);
            Due.same("nothing is sent without slots", x.port(1, 0), 1);
            Due.same("one that misses", Due.compiled(x, misses), 0);
            Due.same("check of one that misses", x.check(0), 1);
        }
        Due.same("one task of the two", Due.compiled(x, "port p=1;mode A 4{task a 1 on 0{p=2;}}"), 0);
        Due.same("has no message", x.count(4), 0);
        Due.same("a task that assigns nothing", Due.compiled(x, "port p=1;mode A 4{task a 1 on 0{}}"), 0);
        Due.same("has no port", x.task(0, 5), 0);
        Due.same("and no local", x.task(0, 4), 0);
        Due.same("the same names again", Due.compiled(x, "port p=1;mode A 4{task a 1 on 0{}}"), 0);
        Due.same("two modes that switch", Due.compiled(x, "mode A 4{}mode B 4{switch 1 if 1 to B;}"), 0);
        Due.same("one mode that doesn't", Due.compiled(x, "mode A 4{}"), 0);
        x.reset(0);
        x.tick(5);
        Due.same("stays in it", x.state(2), 0);
        Due.same("names of another text", Due.compiled(x, "mode B 4{task b 1 on 0{x=p;}}"), 26);
    }

    private static void wideTexts() {
        Due.sentence("Compiles the text: as often as it is given");
        LogicalTimes x = new LogicalTimes();
        String wide = Texts.inTask("p=" + "1+".repeat(29) + "1;" + ("q=" + "1+".repeat(29) + "1;").repeat(24));
        for (int n = 0; n < 4; n++) {
            Due.same("a wide text", Due.compiled(x, wide), 0);
        }
        x.reset(0);
        x.tick(13);
        Due.same("p of the wide text", x.denoted(0), 30);
        Due.same("q of the wide text", x.denoted(1), 30);
        LogicalTimes y = new LogicalTimes();
        String many = Texts.inTask("x=0;".repeat(150));
        for (int n = 0; n < 4; n++) {
            Due.same("150 statements", Due.compiled(y, many), 0);
        }
    }
}
