import java.util.function.IntSupplier;

/** What every call that only asks answers: two objects in the same state answer the same. */
final class Face {
    private Face() {
    }

    static String answers(LogicalTimes x) {
        StringBuilder all = new StringBuilder();
        for (int what = -1; what <= 5; what++) {
            int asked = what;
            all.append(answer(() -> x.count(asked)));
        }
        int ports = x.count(0);
        int modes = x.count(2);
        int tasks = x.count(3);
        int messages = x.count(4);
        for (int t = 0; t < tasks; t++) {
            addTask(all, x, t);
        }
        for (int m = 0; m < modes; m++) {
            addMode(all, x, m, messages);
        }
        for (int what = 0; what <= 6; what++) {
            int asked = what;
            all.append(answer(() -> x.state(asked)));
        }
        for (int node = 0; node < 4; node++) {
            addNode(all, x, node, ports);
        }
        return all.toString();
    }

    private static void addTask(StringBuilder all, LogicalTimes x, int t) {
        all.append("task: ");
        for (int what = 0; what <= 5; what++) {
            int asked = what;
            all.append(answer(() -> x.task(t, asked)));
        }
        all.append(answer(() -> x.slack(t)));
    }

    private static void addMode(StringBuilder all, LogicalTimes x, int m, int messages) {
        all.append("mode: ").append(answer(() -> x.check(m)));
        for (int i = 0; i < messages; i++) {
            int asked = i;
            all.append(answer(() -> x.slot(m, asked)));
        }
    }

    private static void addNode(StringBuilder all, LogicalTimes x, int node, int ports) {
        all.append("node: ").append(answer(() -> x.running(node)));
        for (int p = 0; p < ports; p++) {
            int asked = p;
            all.append(answer(() -> x.port(node, asked))).append(answer(() -> x.denoted(asked)));
        }
    }

    private static String answer(IntSupplier call) {
        try {
            return call.getAsInt() + " ";
        } catch (RuntimeException thrown) {
            return thrown.getClass().getSimpleName() + " ";
        }
    }
}
