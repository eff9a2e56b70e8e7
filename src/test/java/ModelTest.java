import java.util.List;
import java.util.Random;

/** All promises: many runs of calls answer as those of the model do. */
final class ModelTest {
    private static final int RUNS = 3000;

    static void test(Checks checks) {
        for (int seed = 0; seed < RUNS; seed++) {
            Random random = new Random(seed);
            int[] labels = labels(random);
            LabelledTables tables = new LabelledTables(labels[0], labels[1], labels[2], labels[3]);
            Model model = new Model(labels);
            List<Call> calls = Calls.of(random);
            for (int i = 0; i < calls.size(); i++) {
                long due = calls.get(i).on(model);
                long answered = calls.get(i).on(tables);
                checks.same("run " + seed + ", call " + i + ", " + calls.get(i), due, answered);
                if (due != answered) {
                    return;
                }
            }
        }
    }

    /** Labels that have something to do with one another more often than any four would. */
    static int[] labels(Random random) {
        int[][] kinds = {{0, 0, 1, 3}, {0, 1, 2, 3}, {1, 1, 3, 7}, {7, 7, 0, 0}, {5, 5, 5, 5}, {0, 1, 3, 7}};
        int kind = random.nextInt(kinds.length + 3);
        if (kind < kinds.length) {
            return kinds[kind].clone();
        }
        return random.ints(4).toArray();
    }
}
