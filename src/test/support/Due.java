/** What every test of the project needs: answers compared with what is due, and texts brought to an object. */
final class Due {
    private static int answers = 0;
    private static int wrong = 0;

    private Due() {
    }

    static void same(String what, long got, long due) {
        answers++;
        if (got != due) {
            wrong++;
            System.out.println(what + " answered " + got + ", due is " + due);
        }
    }

    static void holds(String what, boolean got) {
        same(what, got ? 1 : 0, 1);
    }

    static void refused(String what, Class<? extends RuntimeException> due, Runnable call) {
        answers++;
        String got = "nothing";
        try {
            call.run();
        } catch (RuntimeException thrown) {
            got = thrown.getClass().getSimpleName();
        }
        if (!got.equals(due.getSimpleName())) {
            wrong++;
            System.out.println(what + " threw " + got + ", due is " + due.getSimpleName());
        }
    }

    /** Feeds the text's characters, which are bytes, and cuts the tape behind them. */
    static void give(LogicalTimes x, String text) {
        for (int i = 0; i < text.length(); i += 20) {
            x.feed(four(text, i), four(text, i + 4), four(text, i + 8), four(text, i + 12), four(text, i + 16));
        }
        x.end(text.length());
    }

    private static int four(String text, int from) {
        int word = 0;
        for (int i = from; i < from + 4; i++) {
            word = word << 8 | (i < text.length() ? text.charAt(i) & 255 : 0);
        }
        return word;
    }

    static int compiled(LogicalTimes x, String text) {
        give(x, text);
        return x.compile();
    }

    static LogicalTimes program(String text) {
        LogicalTimes x = new LogicalTimes();
        same("compile of " + text, compiled(x, text), 0);
        return x;
    }

    /** A program that runs from the beginning of its first mode on. */
    static LogicalTimes run(String text) {
        LogicalTimes x = program(text);
        x.reset(0);
        return x;
    }

    static void close() {
        System.out.println(answers - wrong + " answers as due, " + wrong + " not");
        if (wrong != 0 || answers == 0) {
            System.exit(1);
        }
    }
}
