import java.util.ArrayList;
import java.util.List;
import java.util.Random;

/**
 * What the document begins with: nothing that a session does, but for crashes, shows at a label that does
 * not dominate that session's. Runs of calls are made twice, the second time without all that is done at
 * labels which the looking one does not dominate; what is left must answer as before.
 */
final class SecrecyTest {
    private static final int RUNS = 1500;

    static void test(Checks checks) {
        for (int seed = 0; seed < RUNS; seed++) {
            Random random = new Random(seed * 7919L + 1);
            int[] labels = ModelTest.labels(random);
            List<Call> calls = Calls.of(random);
            for (int session = 0; session < 4; session++) {
                test(checks, "secrecy, run " + seed, labels, calls, labels[session] & 7);
            }
        }
    }

    private static void test(Checks checks, String name, int[] labels, List<Call> calls, int label) {
        LabelledTables all = new LabelledTables(labels[0], labels[1], labels[2], labels[3]);
        LabelledTables less = new LabelledTables(labels[0], labels[1], labels[2], labels[3]);
        List<String> wrong = new ArrayList<>();
        for (Call call : calls) {
            long answer = call.on(all);
            int session = call.session();
            boolean shows = session < 0 || session > 3 || (labels[session] & 7 & ~label) == 0;
            if (shows) {
                long other = call.on(less);
                if (answer != other) {
                    wrong.add(call + " answered " + answer + ", without what is above " + other);
                }
            } else if (call.name().equals("cut") && answer >= 0) {
                less.crash();
            }
        }
        checks.same(name + " seen from " + label + ": " + wrong, 0, wrong.size());
    }
}
