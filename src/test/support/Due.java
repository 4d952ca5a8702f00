/** What every test of the project needs: answers compared with what is due, and texts brought to an object. */
final class Due {
    private static final int MOST_BYTES = 3000;

    private static int answers = 0;
    private static int wrong = 0;
    private static int sentences = 0;
    private static int answersAhead = 0;
    private static String sentence = "";

    private Due() {
    }

    /** The document's words that the answers from here on are due by; a sentence without an answer is wrong. */
    static void sentence(String words) {
        closeSentence();
        sentence = words;
        answersAhead = answers;
        sentences++;
    }

    private static void closeSentence() {
        if (sentences > 0 && answers == answersAhead) {
            tell("no answer was asked for");
        }
    }

    private static void tell(String what) {
        wrong++;
        System.out.println((sentence.isEmpty() ? "" : "[" + sentence + "] ") + what);
    }

    static void same(String what, long got, long due) {
        answers++;
        if (got != due) {
            tell(what + " answered " + got + ", due is " + due);
        }
    }

    static void same(String what, String got, String due) {
        answers++;
        if (!got.equals(due)) {
            tell(what + " answered " + got + ", due is " + due);
        }
    }

    static void holds(String what, boolean got) {
        same(what, got ? 1 : 0, 1);
    }

    static void refused(String what, Class<? extends RuntimeException> due, Runnable call) {
        String got = "nothing";
        try {
            call.run();
        } catch (RuntimeException thrown) {
            got = thrown.getClass().getSimpleName();
        }
        same(what + " throws:", got, due.getSimpleName());
    }

    /** Feeds the text's characters, which are bytes, and cuts the tape behind them. */
    static void give(LogicalTimes x, String text) {
        holds("a text that has " + text.length() + " bytes fits", text.length() <= MOST_BYTES);
        feed(x, text);
        holds("end(" + text.length() + ")", x.end(text.length()));
    }

    /** Feeds the text's characters, and zeros behind them up to the next twenty. */
    static void feed(LogicalTimes x, String text) {
        for (int i = 0; i < text.length(); i += 20) {
            holds("feed at " + i,
                x.feed(four(text, i), four(text, i + 4), four(text, i + 8), four(text, i + 12), four(text, i + 16)));
        }
    }

    /** Four bytes of the text as an int, with zeros behind its end. */
    static int four(String text, int from) {
        int word = 0;
        for (int i = from; i < from + 4; i++) {
            word = word << 8 | (i < text.length() ? text.charAt(i) & 255 : 0);
        }
        return word;
    }

    static int compiled(LogicalTimes x, String text) {
        give(x, text);
        return x.compile();
    }

    static LogicalTimes program(String text) {
        LogicalTimes x = new LogicalTimes();
        same("compile of " + text, compiled(x, text), 0);
        return x;
    }

    /** A program that runs from the beginning of its first mode on. */
    static LogicalTimes run(String text) {
        LogicalTimes x = program(text);
        x.reset(0);
        return x;
    }

    static void close() {
        closeSentence();
        System.out.println(answers + " answers asked for by " + sentences + " sentences, " + wrong + " wrong");
        if (wrong != 0 || answers == 0) {
            System.exit(1);
        }
    }
}
