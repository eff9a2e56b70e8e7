/** Promises 13 and 14: the rows that a session sees. */
final class SeenTest {
    static void test(Checks checks) {
        testLabels(checks);
        testOrder(checks);
        testTransactions(checks);
        testOutside(checks);
    }

    /** Rows at two labels, looked at from all eight: the objects differ in the looking labels. */
    private static void testLabels(Checks checks) {
        for (int high = 0; high < 8; high++) {
            for (int low = 0; low < 8; low++) {
                Trial trial = new Trial(checks, "promise 13: what a label dominates", low, high, low, high);
                trial.run(0, "insert A 1,1,1", 1).rows(0, Trial.A, 1).rows(0, Trial.B, 0);
                boolean dominates = (high | low) == high;
                trial.rows(1, Trial.A, dominates ? 1 : 0).cell(1, Trial.A, 0, 3, dominates ? low : -1);
                trial.run(1, "update A v=2", dominates ? 1 : 0);
                trial.rows(1, Trial.A, !dominates ? 0 : high == low ? 1 : 2);
                trial.rows(2, Trial.A, 1).rows(3, Trial.B, 0);
            }
        }
    }

    private static void testOrder(Checks checks) {
        new Trial(checks, "promise 14: in order by key, then by label", 4, 1, 6, 7)
                .run(3, "insert A 5,1,2", 1).run(2, "insert A 5,3,4", 1).run(1, "insert A 5,5,6", 1)
                .run(0, "insert A 5,7,8", 1).run(0, "insert A -7,9,10", 1).run(3, "insert A 65536*32768,0,0", 1)
                .run(1, "insert A 65536*32768-1,-1,-2", 1).run(2, "insert A 4,0,0", 1).run(0, "insert B 1,1,1", 1)
                .sees(3, Trial.A, "-2147483648 0 0 7; -7 9 10 4; 4 0 0 6; 5 5 6 1; 5 7 8 4; 5 3 4 6; 5 1 2 7;"
                        + "2147483647 -1 -2 1")
                .sees(2, Trial.A, "-7 9 10 4; 4 0 0 6; 5 7 8 4; 5 3 4 6").sees(0, Trial.A, "-7 9 10 4; 5 7 8 4")
                .sees(1, Trial.A, "5 5 6 1; 2147483647 -1 -2 1").sees(3, Trial.B, "1 1 1 4").rows(1, Trial.B, 0);
    }

    private static void testTransactions(Checks checks) {
        new Trial(checks, "promise 13: transactions of the own label are seen, no others", 1, 1, 3, 0)
                .run(0, "insert A 1,1,1", 1).begin(0, 0).run(0, "insert A 2,2,2", 1).run(0, "delete A where k=1", 1)
                .sees(0, Trial.A, "2 2 2 1").sees(1, Trial.A, "2 2 2 1").sees(2, Trial.A, "1 1 1 1").rows(3, Trial.A, 0)
                .begin(2, 0).run(2, "insert A 9,9,9", 1).sees(2, Trial.A, "1 1 1 1; 9 9 9 3").rows(1, Trial.A, 1)
                .commit(0, 3).sees(2, Trial.A, "2 2 2 1; 9 9 9 3").abort(2, 0).sees(2, Trial.A, "2 2 2 1")
                .begin(3, 0).run(3, "insert A 1,0,0", 1).rows(0, Trial.A, 1).commit(3, 2).rows(0, Trial.A, 2);
    }

    private static void testOutside(Checks checks) {
        Trial trial = new Trial(checks, "promises 13 and 14: outside of what there is", 0, 1, 2, 3);
        trial.run(0, "insert A 1,2,3", 1);
        for (int wrong : new int[] {-1, 4, Integer.MIN_VALUE, Integer.MAX_VALUE}) {
            trial.rows(wrong, Trial.A, -1).cell(wrong, Trial.A, 0, 0, -1).cell(0, Trial.A, 0, wrong, -1);
        }
        for (int wrong : new int[] {-1, 2, Integer.MIN_VALUE, Integer.MAX_VALUE}) {
            trial.rows(0, wrong, -1).cell(0, wrong, 0, 0, -1).cell(0, Trial.A, wrong, 0, -1);
        }
        trial.cell(0, Trial.A, 1, 0, -1).cell(0, Trial.B, 0, 0, -1).cell(0, Trial.A, 0, 3, 0).cell(0, Trial.A, 0, 2, 3);
    }
}
