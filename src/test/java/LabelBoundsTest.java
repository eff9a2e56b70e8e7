/** The boundary cases of labels, sessions, tables and rows, a sentence of the document at a time. */
final class LabelBoundsTest {
    /** For each label the labels that it dominates. */
    private static final String[] DOMINATED = {"0", "01", "02", "0123", "04", "0145", "0246", "01234567"};
    /** Expressions of the least and the greatest int. */
    private static final String LEAST = "-65536*32768";
    private static final String GREATEST = "65536*32768-1";

    static void test(Checks checks) {
        testLabels(checks);
        testDominates(checks);
        testSessions(checks);
        testTables(checks);
        testColumns(checks);
        testSameKey(checks);
        testMostRows(checks);
        testOrder(checks);
        testCommittedRows(checks);
        testSees(checks);
        testWritesAtOwnLabel(checks);
        testNothingShowsBelow(checks);
        testCrashShowsBelow(checks);
        testCalls(checks);
    }

    private static void testLabels(Checks checks) {
        int[][] cases = {
            {0, 0}, {1, 1}, {2, 2}, {3, 3}, {4, 4}, {5, 5}, {6, 6}, {7, 7}, {8, 0}, {9, 1}, {15, 7}, {16, 0}, {-1, 7},
            {-2, 6}, {-7, 1}, {-8, 0}, {-9, 7}, {Integer.MAX_VALUE, 7}, {Integer.MAX_VALUE - 7, 0},
            {Integer.MIN_VALUE, 0}, {Integer.MIN_VALUE + 5, 5},
        };
        String sentence = "LABELS are 0 .. 7; the constructor's arguments give their labels by their lowest three bits";
        for (int[] one : cases) {
            new Trial(checks, sentence, one[0], 1, 2, 3).label(0, one[1]).label(1, 1).label(2, 2).label(3, 3);
            new Trial(checks, sentence, 4, one[0], 5, 6).label(0, 4).label(1, one[1]).label(2, 5).label(3, 6);
            new Trial(checks, sentence, 1, 2, one[0], 3).label(0, 1).label(1, 2).label(2, one[1]).label(3, 3);
            new Trial(checks, sentence, 7, 0, 7, one[0]).label(0, 7).label(1, 0).label(2, 7).label(3, one[1]);
        }
        new Trial(checks, sentence, 1, 9, -7, 2).run(0, "insert A 1,1,1", 1).sees(1, Trial.A, "1 1 1 1")
                .sees(2, Trial.A, "1 1 1 1").rows(3, Trial.A, 0).begin(0, 0).begin(1, -6).begin(2, -6).begin(3, 0);
    }

    private static void testDominates(Checks checks) {
        for (int a = 0; a < 8; a++) {
            for (int b = 0; b < 8; b++) {
                boolean dominates = DOMINATED[a].indexOf('0' + b) >= 0;
                new Trial(checks, "a DOMINATES b when each bit of b is one of a", a, b, a, b)
                        .run(1, "insert A 1,1,1", 1).rows(0, Trial.A, dominates ? 1 : 0).rows(1, Trial.A, 1)
                        .cell(0, Trial.A, 0, 3, dominates ? b : -1).run(0, "select k from A", dominates ? 1 : 0);
            }
        }
    }

    private static void testSessions(Checks checks) {
        new Trial(checks, "SESSIONS are 0 .. 3", 4, 5, 6, 7).label(-1, -1).label(0, 4).label(3, 7).label(4, -1)
                .draft(-1, -1).draft(0, 0).draft(3, 0).draft(4, -1).begin(-1, -1).begin(4, -1).begin(0, 0).begin(3, 0)
                .label(1 << 30, -1).label(Integer.MIN_VALUE, -1).label(Integer.MIN_VALUE + 1, -1).label(1 << 8, -1);
    }

    private static void testTables(Checks checks) {
        new Trial(checks, "TABLES are A (0) and B (1)", 0, 0, 0, 0).run(0, "insert A 1,2,3", 1)
                .rows(0, 0, 1).rows(0, 1, 0).run(0, "insert B 4,5,6", 1).run(0, "insert B 7,8,9", 1).rows(0, 0, 1)
                .rows(0, 1, 2).rows(0, -1, -1).rows(0, 2, -1).cell(0, -1, 0, 0, -1).cell(0, 2, 0, 0, -1)
                .cell(0, 0, 0, 0, 1).cell(0, 1, 0, 0, 4).select(0, "select k,v from A", "1 2")
                .select(0, "select k,v from B", "4 5; 7 8");
    }

    private static void testColumns(Checks checks) {
        String sentence = "its COLUMNS k, v, w and lab are its key, its values and its label, all ints";
        new Trial(checks, sentence, 5, 5, 5, 5)
                .run(0, "insert A " + LEAST + "," + GREATEST + "," + LEAST, 1)
                .run(0, "insert A " + GREATEST + "," + LEAST + "," + GREATEST, 1)
                .sees(0, Trial.A, "-2147483648 2147483647 -2147483648 5; 2147483647 -2147483648 2147483647 5")
                .select(0, "select k,v,w from A",
                        "-2147483648 2147483647 -2147483648; 2147483647 -2147483648 2147483647")
                .select(0, "select lab,k from A", "5 -2147483648; 5 2147483647")
                .run(0, "insert A " + GREATEST + ",0,0", -4).run(0, "insert A " + LEAST + ",0,0", -4)
                .run(0, "insert A " + LEAST + "+1,0,0", 1).run(0, "delete A where k=" + LEAST, 1).rows(0, Trial.A, 2);
    }

    private static void testSameKey(Checks checks) {
        new Trial(checks, "no two rows of a table have both the same key and the same label", 1, 1, 3, 7)
                .run(0, "insert A 1,1,1", 1).run(0, "insert A 1,2,2", -4).run(1, "insert A 1,2,2", -4)
                .run(0, "insert A 0,0,0", 1).run(0, "insert A 2,0,0", 1).run(0, "insert B 1,3,3", 1)
                .run(1, "insert B 1,4,4", -4).sees(1, Trial.A, "0 0 0 1; 1 1 1 1; 2 0 0 1").sees(1, Trial.B, "1 3 3 1")
                .run(1, "delete A where k=1", 1).run(1, "insert A 1,5,5", 1).run(0, "insert A 1,6,6", -4);
        new Trial(checks, "the same key may be there once for each label", 1, 2, 4, 7)
                .run(0, "insert A 5,0,1", 1).run(1, "insert A 5,0,2", 1).run(2, "insert A 5,0,4", 1)
                .run(3, "insert A 5,0,7", 1).run(0, "insert A 5,9,9", -4).run(1, "insert A 5,9,9", -4)
                .run(2, "insert A 5,9,9", -4).run(3, "insert A 5,9,9", -4)
                .sees(3, Trial.A, "5 0 1 1; 5 0 2 2; 5 0 4 4; 5 0 7 7");
    }

    private static void testMostRows(Checks checks) {
        String sentence = "for each table, at most 6 rows have the same label";
        new Trial(checks, sentence, 1, 1, 3, 0)
                .fill(0, "A", 1, 5).run(1, "insert A 6,0,0", 1).run(0, "insert A 7,0,0", -5)
                .run(1, "insert A 7,0,0", -5).rows(0, Trial.A, 6).fill(0, "B", 1, 6).run(0, "insert B 7,0,0", -5)
                .rows(0, Trial.B, 6).fill(2, "A", 1, 6).run(2, "insert A 7,0,0", -5).rows(2, Trial.A, 12)
                .fill(3, "A", 1, 6).run(3, "insert A 7,0,0", -5).rows(2, Trial.A, 18).rows(0, Trial.A, 12);
        new Trial(checks, sentence, 1, 2, 4, 7).fill(0, "A", 1, 6).fill(1, "A", 1, 6).fill(2, "A", 1, 6)
                .fill(3, "A", 1, 6).rows(3, Trial.A, 24).cell(3, Trial.A, 23, 0, 6).cell(3, Trial.A, 23, 3, 7)
                .cell(3, Trial.A, 24, 0, -1).run(3, "delete A where k=4", 1).rows(3, Trial.A, 23)
                .run(3, "insert A 9,0,0", 1).run(3, "insert A 4,0,0", -5).cell(3, Trial.A, 23, 0, 9);
    }

    private static void testOrder(Checks checks) {
        Trial trial = new Trial(checks, "rows are in order by key, then by label", 7, 4, 3, 0);
        for (int session = 0; session < 4; session++) {
            trial.run(session, "insert A 5," + session + ",0", 1);
        }
        trial.run(3, "insert A " + GREATEST + ",0,0", 1).run(0, "insert A -1,0,0", 1).run(2, "insert A 1,0,0", 1)
                .run(1, "insert A " + LEAST + ",0,0", 1).run(0, "insert A 0,0,0", 1).run(3, "insert A -2,0,0", 1)
                .sees(0, Trial.A, "-2147483648 0 0 4; -2 0 0 0; -1 0 0 7; 0 0 0 7; 1 0 0 3; 5 3 0 0; 5 2 0 3;"
                        + "5 1 0 4; 5 0 0 7; 2147483647 0 0 0")
                .sees(1, Trial.A, "-2147483648 0 0 4; -2 0 0 0; 5 3 0 0; 5 1 0 4; 2147483647 0 0 0")
                .sees(3, Trial.A, "-2 0 0 0; 5 3 0 0; 2147483647 0 0 0");
        // Where a row came from does not matter: made anew, or made by an update, it stands where it did.
        trial.run(3, "delete A where k=5", 1).run(3, "insert A 5,8,8", 1).run(2, "delete A where k=5", 1)
                .run(2, "update A v=9 where k=5", 1)
                .sees(2, Trial.A, "-2 0 0 0; 1 0 0 3; 5 8 8 0; 5 9 8 3; 2147483647 0 0 0");
    }

    private static void testCommittedRows(Checks checks) {
        new Trial(checks,
                "for each label there are the COMMITTED rows with that label, and, while a session of that label"
                + " has a TRANSACTION, the rows as that has changed them", 2, 2, 3, 7)
                .run(0, "insert A 1,1,1", 1).sees(2, Trial.A, "1 1 1 2").begin(0, 0).sees(0, Trial.A, "1 1 1 2")
                .run(0, "update A v=5", 1).run(0, "insert A 2,2,2", 1).sees(0, Trial.A, "1 5 1 2; 2 2 2 2")
                .sees(2, Trial.A, "1 1 1 2").run(0, "delete A where k=1", 1).sees(0, Trial.A, "2 2 2 2")
                .sees(2, Trial.A, "1 1 1 2").abort(0, 0).sees(0, Trial.A, "1 1 1 2").sees(2, Trial.A, "1 1 1 2")
                .begin(1, 0).sees(1, Trial.A, "1 1 1 2").run(1, "delete A", 1).rows(1, Trial.A, 0)
                .sees(2, Trial.A, "1 1 1 2").commit(1, 2).rows(2, Trial.A, 0).rows(3, Trial.A, 0);
    }

    private static void testSees(Checks checks) {
        new Trial(checks, "a session SEES the committed rows of the labels that its own dominates", 1, 2, 3, 7)
                .run(0, "insert A 1,1,1", 1).run(1, "insert A 2,2,2", 1).run(2, "insert A 3,3,3", 1)
                .sees(0, Trial.A, "1 1 1 1").sees(1, Trial.A, "2 2 2 2").sees(2, Trial.A, "1 1 1 1; 2 2 2 2; 3 3 3 3")
                .sees(3, Trial.A, "1 1 1 1; 2 2 2 2; 3 3 3 3").begin(0, 0).run(0, "update A v=9", 1)
                .run(0, "insert A 4,4,4", 1).sees(2, Trial.A, "1 1 1 1; 2 2 2 2; 3 3 3 3").begin(2, 0)
                .sees(2, Trial.A, "1 1 1 1; 2 2 2 2; 3 3 3 3").select(2, "select v from A where lab=1", "1")
                .commit(0, 3).sees(2, Trial.A, "1 9 1 1; 2 2 2 2; 3 3 3 3; 4 4 4 1");
        new Trial(checks, "of its own label those of the transaction, when there is one (also another session's of its"
                + " label)", 3, 3, 3, 1)
                .run(0, "insert A 1,1,1", 1).begin(0, 0).run(0, "update A v=2", 1).run(0, "insert B 1,1,1", 1)
                .sees(0, Trial.A, "1 2 1 3").sees(1, Trial.A, "1 2 1 3").sees(2, Trial.B, "1 1 1 3")
                .select(1, "select v from A", "2").select(2, "select A.v,B.v from A,B", "2 1").rows(3, Trial.A, 0)
                .abort(0, 0).sees(1, Trial.A, "1 1 1 3").rows(2, Trial.B, 0).select(1, "select v from A", "1");
    }

    private static void testWritesAtOwnLabel(Checks checks) {
        new Trial(checks, "a session writes at its own label alone", 1, 3, 7, 3)
                .run(0, "insert A 1,1,1", 1).run(1, "insert A 1,3,3", 1).run(2, "insert A 1,7,7", 1)
                .run(1, "update A v=v+10", 1).sees(2, Trial.A, "1 1 1 1; 1 13 3 3; 1 7 7 7").run(1, "delete A", 1)
                .sees(2, Trial.A, "1 1 1 1; 1 7 7 7").run(1, "update A v=5", 1)
                .sees(2, Trial.A, "1 1 1 1; 1 5 1 3; 1 7 7 7").log(0, 2).log(1, 8).log(2, 2)
                .run(2, "delete A where lab<7", 0).run(2, "delete A", 1).sees(2, Trial.A, "1 1 1 1; 1 5 1 3")
                .checkpoint(2, 0).log(0, 2).log(1, 8);
    }

    /** Session 2 does all that it can but crash; the others have a state that it could have changed. */
    private static void testNothingShowsBelow(Checks checks) {
        Trial trial = new Trial(checks, "nothing that another one does, but for crashes, shows at a label that does not"
                + " dominate that one's", 1, 2, 3, 0);
        trial.run(0, "insert A 1,1,1", 1).select(0, "select v from A", "1").text(0, "delete").begin(0, 0);
        trial.run(2, "insert A 1,3,3", 1).run(2, "update A v=9", 1).begin(2, 0).run(2, "insert B 1,3,3", 1);
        trial.run(2, "delete A", 1).run(2, "update A w=8", 1).commit(2, 3).checkpoint(2, 3).begin(2, 0).abort(2, 0);
        trial.begin(2, 0).select(2, "select v,w from A", "1 1; 1 8").text(2, "select");
        trial.sees(0, Trial.A, "1 1 1 1").rows(0, Trial.B, 0).gave(0, "1").draft(0, 6).busy(0, true).log(0, 2)
                .label(0, 1);
        trial.rows(1, Trial.A, 0).rows(1, Trial.B, 0).gave(1, "").draft(1, 0).busy(1, false).log(1, 0).begin(1, 0);
        trial.rows(3, Trial.A, 0).rows(3, Trial.B, 0).draft(3, 0).log(3, 0).begin(3, 0).checkpoint(1, -6);
        trial.run(3, "insert A 1,0,0", 1).commit(3, 2).run(1, "update A v=2", 1).commit(1, 2).run(0, " A", 1);
        trial.commit(0, 2).sees(0, Trial.A, "1 0 0 0").sees(1, Trial.A, "1 0 0 0; 1 2 0 2");
    }

    private static void testCrashShowsBelow(Checks checks) {
        new Trial(checks, "a crash shows at every label, whoever's cut it is", 0, 1, 2, 7)
                .run(0, "insert A 1,1,1", 1).run(0, "select k from A", 1).text(0, "x").begin(0, 0).begin(1, 0)
                .text(2, "y").begin(3, 0).cut(3, 0, 1).gave(0, "").draft(0, 0).busy(0, false).busy(1, false).draft(2, 0)
                .sees(0, Trial.A, "1 1 1 0").begin(2, 0).cut(2, 5, 1).busy(2, false);
    }

    /** 511 calls, the dearest among them, and then one more. */
    private static void testCalls(Checks checks) {
        Trial trial = new Trial(checks, "an object is used for at most 512 calls after it has been made", 3, 3, 3, 3);
        trial.begin(0, 0).fill(0, "A", 1, 6).fill(0, "B", 1, 6);
        while (trial.made() < 500) {
            trial.run(0, "select sum(A.v),A.k,count from A,B group A.k order A.k", 6);
        }
        while (trial.made() < 511) {
            trial.rows(0, Trial.A, 6);
        }
        trial.commit(0, 13);
        checks.same("how many calls were made", 512, trial.made());
    }
}
