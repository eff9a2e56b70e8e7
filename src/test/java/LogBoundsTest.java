/** The boundary cases of logs, of committing and of crashes, a sentence of the document at a time. */
final class LogBoundsTest {
    static void test(Checks checks) {
        testMostRecords(checks);
        testLogsOfLabels(checks);
        testRecords(checks);
        testRecordsOfTables(checks);
        testNothing(checks);
        testGoesOn(checks);
        testCrashEnds(checks);
        testCrashEmpties(checks);
        testCommittedIs(checks);
        testRecordsBehindTheMark(checks);
        testCutAt(checks);
        testCheckpoint(checks);
    }

    private static void testMostRecords(Checks checks) {
        String sentence = "the LOG of its label (at most 30 RECORDS); -5 when they do not fit";
        for (int count = 24; count <= 30; count++) {
            for (int keys = 1; keys <= 6; keys++) {
                boolean fit = count + keys + 1 <= 30;
                new Trial(checks, sentence, 2, 2, 6, 0).records(0, count).begin(1, 0).fill(1, "A", 1, keys)
                        .commit(1, fit ? keys + 1 : -5).busy(1, !fit).log(0, fit ? count + keys + 1 : count)
                        .rows(2, Trial.A, fit ? keys : 0).rows(0, Trial.A, keys);
                new Trial(checks, sentence, 2, 2, 6, 0).records(0, count).begin(1, 0).fill(1, "A", 1, keys)
                        .cut(1, 99, fit ? 1 : -5).busy(1, !fit).log(0, fit ? count + keys + 1 : count)
                        .rows(2, Trial.A, fit ? keys : 0);
            }
        }
        Trial most = new Trial(checks, sentence, 7, 0, 0, 0).begin(0, 0).fill(0, "A", 1, 6).fill(0, "B", 1, 6)
                .commit(0, 13);
        most.begin(0, 0).run(0, "delete A", 6).run(0, "delete B", 6).fill(0, "A", 7, 9).commit(0, 16).log(0, 29);
        most.begin(0, 0).run(0, "delete A where k=7", 1).commit(0, -5).abort(0, 0).log(0, 29).checkpoint(0, 4)
                .log(0, 4);
    }

    private static void testLogsOfLabels(Checks checks) {
        new Trial(checks, "transactions are kept in a log for each label", 0, 1, 2, 1).records(0, 30).records(1, 29)
                .records(2, 28).log(3, 29).run(0, "insert A 1,1,1", -5).run(1, "insert A 1,1,1", -5)
                .run(2, "insert A 1,1,1", 1).run(2, "insert A 2,1,1", -5).run(3, "insert A 1,1,1", -5).log(0, 30)
                .log(1, 29).log(2, 30).log(3, 29).checkpoint(3, 3).log(1, 3).log(0, 30).log(2, 30)
                .run(1, "insert A 1,1,1", 1).log(3, 5);
    }

    private static void testRecords(Checks checks) {
        Trial trial = new Trial(checks,
                "one record for each key of each table for which the row of that label is there now and was"
                + " not, or was and is not, or has other values; and behind them a mark", 1, 1, 0, 0);
        trial.begin(0, 0).run(0, "insert A 1,1,1", 1).commit(0, 2).begin(0, 0).fill(0, "A", 2, 6).commit(0, 6)
                .log(0, 8);
        trial.begin(0, 0).run(0, "update A v=5 where k=1", 1).commit(0, 2).begin(0, 0)
                .run(0, "update A w=5 where k=1", 1);
        trial.commit(0, 2).begin(0, 0).run(0, "update A v=6 where k=1", 1).run(0, "update A w=6 where k=1", 1)
                .commit(0, 2);
        trial.begin(0, 0).run(0, "update A v=7 where k<3", 2).commit(0, 3).log(0, 17);
        trial.begin(0, 0).run(0, "delete A where k=2", 1).commit(0, 2).begin(0, 0).run(0, "delete A where k>4", 2)
                .commit(0, 3);
        trial.log(0, 22).sees(1, Trial.A, "1 7 6 1; 3 0 0 1; 4 0 0 1").checkpoint(0, 4).log(0, 4);
        // A key whose row was taken out, and is there again, has one record when its values are others, else none.
        trial.begin(0, 0).run(0, "delete A where k=3", 1).run(0, "insert A 3,0,1", 1).commit(0, 2);
        trial.begin(0, 0).run(0, "delete A where k=3", 1).run(0, "insert A 3,1,1", 1).commit(0, 2);
        trial.begin(0, 0).run(0, "delete A where k=3", 1).run(0, "insert A 3,1,1", 1).commit(0, 0);
        trial.begin(0, 0).run(0, "insert A 9,9,9", 1).run(0, "update A v=8 where k=9", 1)
                .run(0, "delete A where k=9", 1);
        trial.run(0, "delete A where k=4", 1).run(0, "insert A 5,0,0", 1).commit(0, 3).log(0, 11);
        trial.begin(0, 0).run(0, "update A v=v+1", 3).run(0, "update A v=v-1 where k>1", 2).commit(0, 2).log(0, 13);
        trial.sees(1, Trial.A, "1 8 6 1; 3 1 1 1; 5 0 0 1");
    }

    private static void testRecordsOfTables(Checks checks) {
        new Trial(checks, "one record for each key of each table", 4, 5, 4, 0)
                .begin(0, 0).run(0, "insert A 1,1,1", 1).run(0, "insert B 1,1,1", 1).commit(0, 3).begin(0, 0)
                .run(0, "delete A", 1).run(0, "insert B 2,1,1", 1).commit(0, 3).begin(0, 0).run(0, "insert A 1,1,1", 1)
                .run(0, "delete B where k=1", 1).commit(0, 3).log(2, 9).begin(1, 0).run(1, "update A v=1", 1)
                .run(1, "update B v=1", 1).commit(1, 3).log(1, 3).log(0, 9).sees(1, Trial.A, "1 1 1 4; 1 1 1 5")
                .sees(1, Trial.B, "2 1 1 4; 2 1 1 5");
    }

    private static void testNothing(Checks checks) {
        String sentence = "nothing at all when there are none";
        new Trial(checks, sentence, 3, 3, 1, 0).begin(0, 0).commit(0, 0).log(0, 0).begin(0, 0)
                .run(0, "insert A 1,1,1", 1).run(0, "delete A", 1).commit(0, 0).log(0, 0).run(0, "delete A", 0)
                .run(0, "update A v=1", 0).log(0, 0).run(0, "insert A 1,1,1", 1).begin(0, 0).run(0, "update A v=1", 1)
                .commit(0, 0).log(0, 2).busy(0, false);
        new Trial(checks, sentence + ", and so they fit into a log that is full", 3, 3, 1, 0).records(0, 30).begin(0, 0)
                .commit(0, 0).begin(0, 0).run(0, "update B v=v", 1).run(0, "insert A 1,1,1", 1).run(0, "delete A", 1)
                .commit(0, 0).begin(0, 0).cut(0, 0, 1).begin(0, 0).cut(0, 1, 1).run(0, "update B w=w", 1)
                .run(0, "delete A", 0).log(0, 30);
    }

    private static void testGoesOn(Checks checks) {
        new Trial(checks, "-5, and it goes on, when they do not fit", 2, 2, 6, 0).records(0, 28).begin(0, 0)
                .fill(0, "A", 1, 2).commit(0, -5).busy(0, true).commit(0, -5).begin(1, -6).run(1, "delete A", -6)
                .checkpoint(1, -6).rows(1, Trial.A, 2).rows(2, Trial.A, 0).run(0, "insert A 3,0,0", 1).commit(0, -5)
                .run(0, "delete A where k>1", 2).commit(0, 2).busy(0, false).log(1, 30).rows(2, Trial.A, 1).begin(0, 0)
                .run(0, "delete A", 1).commit(0, -5).abort(0, 0).rows(0, Trial.A, 1).log(0, 30).checkpoint(1, 3)
                .begin(0, 0).run(0, "delete A", 1).commit(0, 2).log(0, 5);
    }

    private static void testCrashEnds(Checks checks) {
        new Trial(checks, "a CRASH ends all transactions (nothing of them remains that was not committed)", 0, 1, 3, 7)
                .run(0, "insert A 1,1,1", 1).run(2, "insert A 2,2,2", 1).begin(0, 0).begin(1, 0).begin(2, 0).begin(3, 0)
                .run(0, "update A v=9", 1).run(0, "insert B 1,1,1", 1).run(1, "insert A 1,1,1", 1).run(2, "delete A", 1)
                .run(3, "update A w=7", 2).crash().busy(0, false).busy(1, false).busy(2, false).busy(3, false)
                .sees(3, Trial.A, "1 1 1 0; 2 2 2 3").rows(3, Trial.B, 0).sees(0, Trial.A, "1 1 1 0").log(0, 2)
                .log(1, 0).log(2, 2).log(3, 0).commit(0, -8).abort(1, -8).cut(2, 9, -8).begin(0, 0).begin(1, 0)
                .begin(2, 0).begin(3, 0).commit(0, 0).commit(1, 0).commit(2, 0).commit(3, 0).crash().crash()
                .sees(3, Trial.A, "1 1 1 0; 2 2 2 3");
    }

    private static void testCrashEmpties(Checks checks) {
        Trial trial = new Trial(checks, "a CRASH empties drafts and results", 0, 1, 2, 3).run(0, "insert A 1,1,1", 1);
        for (int session = 0; session < 4; session++) {
            trial.select(session, "select k,v+1 from A", "1 2").text(session, "delete A");
        }
        trial.crash();
        for (int session = 0; session < 4; session++) {
            trial.draft(session, 0).gave(session, "").run(session, -2).label(session, session);
        }
        trial.sees(0, Trial.A, "1 1 1 0").text(0, "delete A").draft(0, 8).run(0, 1).log(0, 4);
    }

    private static void testCommittedIs(Checks checks) {
        Trial trial = new Trial(checks,
                "transactions come back whole after a crash: committed is what the records before marks make",
                1, 3, 1, 0);
        trial.begin(0, 0).fill(0, "A", 1, 6).fill(0, "B", 1, 6).commit(0, 13).crash().rows(0, Trial.A, 6)
                .rows(0, Trial.B, 6);
        trial.begin(2, 0).run(2, "delete A where k>2", 4).run(2, "update A v=k*5", 2).run(2, "delete B", 6)
                .commit(2, 13).crash();
        trial.sees(0, Trial.A, "1 5 0 1; 2 10 0 1").rows(0, Trial.B, 0).log(0, 26).begin(0, 0).run(0, "delete A", 2)
                .crash();
        trial.sees(1, Trial.A, "1 5 0 1; 2 10 0 1").run(1, "update A w=9", 2).crash().log(1, 3).checkpoint(0, 3).crash()
                .log(0, 3);
        trial.sees(1, Trial.A, "1 5 0 1; 1 5 9 3; 2 10 0 1; 2 10 9 3").run(0, "delete A", 2).crash();
        trial.sees(1, Trial.A, "1 5 9 3; 2 10 9 3").rows(0, Trial.A, 0).log(0, 6).checkpoint(2, 0).crash().log(0, 0)
                .rows(0, Trial.A, 0);
    }

    /** However many records of a transaction were written, a later one is committed as if there had been none. */
    private static void testRecordsBehindTheMark(Checks checks) {
        for (int n = 0; n < 4; n++) {
            new Trial(checks, "in the logs neither: records behind the last mark go", 1, 1, 3, 0)
                    .run(0, "insert A 1,1,1", 1).begin(0, 0).run(0, "update A v=2", 1).run(0, "insert A 2,2,2", 1)
                    .run(0, "insert B 3,3,3", 1).cut(0, n, 0).log(0, 2).log(1, 2).sees(2, Trial.A, "1 1 1 1")
                    .rows(2, Trial.B, 0).run(1, "insert A 7,7,7", 1).log(0, 4).crash().log(0, 4)
                    .sees(2, Trial.A, "1 1 1 1; 7 7 7 1").rows(2, Trial.B, 0).checkpoint(0, 3);
        }
        Trial full = new Trial(checks, "records that were cut leave their room", 1, 1, 3, 0).records(0, 26);
        for (int n = 0; n < 4; n++) {
            full.begin(0, 0).fill(0, "A", 1, 3).cut(0, n, 0).log(0, 26).rows(0, Trial.A, 0);
        }
        full.begin(0, 0).fill(0, "A", 1, 3).cut(0, 4, 1).log(0, 30).rows(0, Trial.A, 3);
    }

    /** For each count of records, the mark too, the cuts before, at and behind the last one. */
    private static void testCutAt(Checks checks) {
        for (int keys = 0; keys <= 6; keys++) {
            int records = keys == 0 ? 0 : keys + 1;
            for (int n = 0; n <= records + 1; n++) {
                boolean all = n >= records;
                new Trial(checks, "after n records of it (or all, when there are fewer) a crash comes, in any case:"
                        + " 1 when all of them were written (also when there are none), 0 otherwise"
                        + " (it is not committed then)", 1, 0, 1, 3)
                        .begin(1, 0).run(1, "insert A 9,9,9", 1).text(1, "x").begin(0, 0).fill(0, "A", 1, keys)
                        .cut(0, n, all ? 1 : 0).draft(1, 0).busy(0, false).busy(1, false).log(2, all ? records : 0)
                        .rows(3, Trial.A, all ? keys : 0).rows(0, Trial.A, all ? keys : 0);
            }
        }
    }

    private static void testCheckpoint(Checks checks) {
        String sentence = "the log is written anew: a record for each committed row of that label, and a mark"
                + " (nothing when there are no rows)";
        new Trial(checks, sentence, 1, 1, 3, 0).checkpoint(0, 0).log(0, 0).run(0, "insert A 1,1,1", 1).checkpoint(0, 2)
                .log(0, 2).run(0, "insert B 1,1,1", 1).log(0, 4).checkpoint(1, 3).log(0, 3).run(0, "delete A", 1)
                .checkpoint(0, 2).run(0, "delete B", 1).log(0, 4).checkpoint(0, 0).log(1, 0).rows(0, Trial.A, 0)
                .rows(0, Trial.B, 0);
        Trial most = new Trial(checks, sentence, 1, 1, 3, 0).begin(0, 0).fill(0, "A", 1, 6).fill(0, "B", 1, 6)
                .commit(0, 13);
        most.run(2, "update A v=1", 6).fill(3, "A", 1, 2).run(0, "update A v=2", 6).log(0, 20).checkpoint(0, 13)
                .log(0, 13);
        most.crash().log(0, 13).rows(0, Trial.A, 8).rows(0, Trial.B, 6).log(2, 7).checkpoint(2, 7).log(3, 4)
                .checkpoint(3, 3);
        new Trial(checks, "checkpoint: -6 when a session of that label has a transaction", 1, 1, 3, 0)
                .run(0, "insert A 1,1,1", 1).run(0, "update A v=2", 1).begin(0, 0).checkpoint(0, -6).checkpoint(1, -6)
                .log(0, 4).checkpoint(2, 0).checkpoint(3, 0).busy(0, true).commit(0, 0).checkpoint(1, 2).begin(2, 0)
                .checkpoint(0, 2).checkpoint(2, -6).abort(2, 0).checkpoint(2, 0).begin(1, 0).checkpoint(0, -6).crash()
                .checkpoint(0, 2);
    }
}
