import java.util.function.IntFunction;

/** Texts that compile, and texts that don't. */
final class Texts {
    static final String[] WORDS = "port sensor mode task on if else repeat switch to slots".split(" ");
    static final String[] SIGNS = "{ } ; , = + - * / % < > ( )".split(" ");

    private Texts() {
    }

    static void good(String text) {
        Due.same("compile of " + text, Due.compiled(new LogicalTimes(), text), 0);
    }

    /** In the marked text, ^ stands ahead of the token whose place is told. */
    static void bad(String marked) {
        int place = marked.indexOf('^');
        fault(marked.substring(0, place) + marked.substring(place + 1), place);
    }

    static void fault(String text, int place) {
        LogicalTimes x = new LogicalTimes();
        Due.same("compile of " + text, Due.compiled(x, text), 1 + place);
        Due.same("modes behind the fault", x.count(2), 0);
    }

    /** Statements of a task, with a port p, a port q and a sensor s. */
    static String inTask(String statements) {
        return "port p=0;port q=0;sensor s;mode M 12{task t 1 on 0{" + statements + "}}";
    }

    /** So many parts behind each other, each made from its number. */
    static String row(int size, IntFunction<String> part) {
        StringBuilder all = new StringBuilder();
        for (int i = 0; i < size; i++) {
            all.append(part.apply(i));
        }
        return all.toString();
    }

    /** The most of everything: twelve ports, four sensors, four modes, and in each six tasks that assign two ports 120 times. */
    static String most() {
        String head = row(12, p -> "port p" + p + "=1;") + row(4, s -> "sensor s" + s + ";");
        return head + row(4, m -> "mode M" + m + " 120{"
            + row(6, t -> "task t" + m + t + " 120 on " + m + "{p" + 2 * t + "=1;p" + (2 * t + 1) + "=1;}") + "}");
    }

    static boolean isBlank(int b) {
        return b == 32 || b == 9 || b == 10 || b == 13;
    }

    static boolean isDigit(int b) {
        return b >= 48 && b <= 57;
    }

    static boolean isLetter(int b) {
        return b >= 65 && b <= 90 || b >= 97 && b <= 122;
    }
}
