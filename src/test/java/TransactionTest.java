/** Promises 4, 5, 6, 7, 11 and 12. */
final class TransactionTest {
    static void test(Checks checks) {
        testBegin(checks);
        testCommit(checks);
        testRecords(checks);
        testAbort(checks);
        testFullLog(checks);
        testCheckpoint(checks);
        testNoSession(checks);
    }

    private static void testBegin(Checks checks) {
        new Trial(checks, "promises 4 and 11: one transaction a label", 1, 1, 2, 3)
                .busy(0, false).begin(0, 0).busy(0, true).busy(1, false).busy(2, false)
                .begin(0, -6).begin(1, -6).begin(2, 0).begin(3, 0).busy(2, true).busy(3, true)
                .commit(0, 0).busy(0, false).begin(1, 0).begin(0, -6).busy(0, false).busy(1, true)
                .abort(1, 0).begin(0, 0).busy(2, true);
        new Trial(checks, "promise 4: the labels alone count", 9, 1, 1, 1).begin(3, 0).begin(0, -6).begin(2, -6);
    }

    private static void testCommit(Checks checks) {
        new Trial(checks, "promise 5: commit", 1, 1, 3, 0)
                .commit(0, -8).begin(0, 0).commit(1, -8).run(0, "insert A 1,1,1", 1).run(0, "insert B 1,1,1", 1)
                .sees(1, Trial.A, "1 1 1 1").rows(2, Trial.A, 0).log(0, 0).log(1, 0)
                .commit(0, 3).log(0, 3).log(1, 3).log(2, 0).log(3, 0).busy(0, false).commit(0, -8)
                .sees(2, Trial.A, "1 1 1 1").sees(2, Trial.B, "1 1 1 1").begin(0, 0).commit(0, 0).log(0, 3)
                .begin(1, 0).run(1, "update A v=5", 1).sees(0, Trial.A, "1 5 1 1").sees(2, Trial.A, "1 1 1 1")
                .run(1, "select v from A", 1).value(1, 0, 0, 5).run(0, "select v from A", 1).value(0, 0, 0, 5)
                .run(2, "select v from A", 1).value(2, 0, 0, 1).commit(1, 2).log(0, 5).sees(2, Trial.A, "1 5 1 1");
    }

    /** One record for each key of each table whose row is another one than before, and the mark. */
    private static void testRecords(Checks checks) {
        Trial trial = new Trial(checks, "promise 5: the records of a commit", 2, 3, 2, 0);
        trial.begin(0, 0).run(0, "insert A 1,1,1", 1).run(0, "insert A 2,2,2", 1).run(0, "insert A 3,3,3", 1);
        trial.run(0, "update A v=9", 3).run(0, "update A v=k", 3).run(0, "insert B 1,1,1", 1).commit(0, 5);
        trial.begin(0, 0).run(0, "delete A where k=2", 1).run(0, "insert A 2,2,2", 1).commit(0, 0);
        trial.begin(0, 0).run(0, "delete A where k=2", 1).run(0, "insert A 2,2,3", 1).commit(0, 2);
        trial.begin(0, 0).run(0, "delete A where k=2", 1).run(0, "insert A 2,3,3", 1).commit(0, 2);
        trial.begin(0, 0).run(0, "insert A 4,4,4", 1).run(0, "delete A where k=4", 1).commit(0, 0);
        trial.begin(0, 0).run(0, "update A v=v", 3).run(0, "update B w=w+1", 1).run(0, "update B w=1", 1).commit(0, 0);
        trial.begin(0, 0).run(0, "delete A where k<3", 2).run(0, "update A w=0", 1).run(0, "insert A 9,9,9", 1);
        trial.run(0, "insert B 2,2,2", 1).commit(0, 6).log(0, 15);
        trial.begin(0, 0).run(0, "delete A", 2).run(0, "insert B 9,9,9", 1).commit(0, 4).log(0, 19);
        trial.sees(1, Trial.B, "1 1 1 2; 2 2 2 2; 9 9 9 2").rows(1, Trial.A, 0);
        trial.run(0, "delete B where k=1", 1).log(0, 21).run(0, "update B v=v", 2).log(2, 21).run(1, "update B v=v", 2);
        trial.log(0, 21).log(1, 3);
    }

    private static void testAbort(Checks checks) {
        new Trial(checks, "promise 6: abort", 1, 1, 3, 0)
                .abort(0, -8).run(0, "insert A 1,1,1", 1).begin(0, 0).abort(1, -8).run(0, "update A v=2", 1)
                .run(0, "insert A 2,2,2", 1).run(0, "insert B 2,2,2", 1).run(0, "select v from A", 2)
                .sees(1, Trial.A, "1 2 1 1; 2 2 2 1").text(0, "delete").abort(0, 0).abort(0, -8).busy(0, false)
                .sees(0, Trial.A, "1 1 1 1").sees(2, Trial.A, "1 1 1 1").rows(1, Trial.B, 0).log(0, 2).draft(0, 6)
                .gave(0, "2; 2").begin(1, 0).commit(1, 0).log(0, 2).run(0, " A", 1).rows(1, Trial.A, 0);
    }

    private static void testFullLog(Checks checks) {
        Trial trial = new Trial(checks, "promise 5: records that do not fit", 0, 1, 0, 0);
        for (int i = 1; i <= 13; i++) {
            trial.run(0, i % 2 == 1 ? "insert A 1,1,1" : "delete A", 1).log(0, 2 * i);
        }
        trial.begin(0, 0).run(0, "insert A 2,2,2", 1).run(0, "insert A 3,3,3", 1).run(0, "insert B 2,2,2", 1);
        trial.run(0, "insert B 3,3,3", 1).commit(0, -5).busy(0, true).log(0, 26).rows(1, Trial.A, 1).rows(2, Trial.A, 3);
        trial.run(0, "delete B where k=3", 1).commit(0, 4).log(0, 30).busy(0, false).rows(1, Trial.A, 3).rows(1, Trial.B, 1);
        trial.begin(2, 0).commit(2, 0).begin(2, 0).run(2, "delete B", 1).commit(2, -5).checkpoint(2, -6).abort(2, 0);
        trial.checkpoint(2, 5).begin(2, 0).run(2, "delete B", 1).commit(2, 2).log(0, 7);
    }

    private static void testCheckpoint(Checks checks) {
        Trial trial = new Trial(checks, "promise 7: checkpoint", 3, 1, 3, 0);
        trial.checkpoint(0, 0).log(0, 0).run(0, "insert A 1,1,1", 1).run(0, "insert A 2,2,2", 1).run(0, "insert B 1,1,1", 1);
        trial.run(1, "insert A 1,1,1", 1).run(0, "update A v=7", 2).log(0, 9).log(1, 2).begin(1, 0);
        trial.checkpoint(2, 4).log(0, 4).log(2, 4).log(1, 2).checkpoint(0, 4).checkpoint(1, -6).abort(1, 0);
        trial.sees(0, Trial.A, "1 1 1 1; 1 7 1 3; 2 7 2 3").sees(0, Trial.B, "1 1 1 3");
        trial.crash().sees(0, Trial.A, "1 1 1 1; 1 7 1 3; 2 7 2 3").sees(0, Trial.B, "1 1 1 3").log(0, 4);
        trial.begin(0, 0).checkpoint(0, -6).checkpoint(2, -6).log(0, 4).busy(0, true).run(0, "delete A", 2).commit(0, 3);
        trial.log(0, 7).run(0, "delete B", 1).log(0, 9).checkpoint(0, 0).log(0, 0).crash();
        trial.sees(0, Trial.A, "1 1 1 1").rows(0, Trial.B, 0);
        Trial most = new Trial(checks, "promise 7: a checkpoint of all rows that there may be", 5, 0, 0, 0);
        for (int k = 0; k < 6; k++) {
            most.run(0, "insert A " + k + ",1,1", 1).run(0, "insert B " + k + ",1,1", 1);
        }
        most.log(0, 24).checkpoint(0, 13).log(0, 13).rows(0, Trial.A, 6).rows(0, Trial.B, 6);
    }

    private static void testNoSession(Checks checks) {
        Trial trial = new Trial(checks, "promises 4 to 7, 11 and 12: no such session", 0, 0, 0, 0);
        trial.begin(0, 0);
        for (int session : new int[] {-1, 4, Integer.MIN_VALUE, Integer.MAX_VALUE}) {
            trial.begin(session, -1).commit(session, -1).abort(session, -1).checkpoint(session, -1);
            trial.busy(session, false).log(session, -1);
        }
        trial.busy(0, true);
    }
}
