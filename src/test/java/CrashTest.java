/** Promises 8 and 9. */
final class CrashTest {
    static void test(Checks checks) {
        testCrash(checks);
        testCut(checks);
        testCutWithoutRecords(checks);
        testCutRefused(checks);
    }

    private static void testCrash(Checks checks) {
        new Trial(checks, "promise 9: crash", 0, 1, 1, 3)
                .crash().run(0, "insert A 1,1,1", 1).begin(0, 0).run(0, "update A v=2", 1).run(0, "insert B 1,1,1", 1)
                .begin(1, 0).run(1, "insert A 1,5,5", 1).begin(3, 0).run(3, "select k from A", 1)
                .run(0, "select k,v from A", 1).text(0, "delete A").text(2, "x").text(3, "yy").crash()
                .busy(0, false).busy(1, false).busy(3, false).draft(0, 0).draft(2, 0).draft(3, 0)
                .gave(0, "").gave(3, "").log(0, 2).log(1, 0).sees(3, Trial.A, "1 1 1 0").rows(3, Trial.B, 0)
                .sees(1, Trial.A, "1 1 1 0").commit(0, -8).abort(1, -8).label(3, 3).begin(2, 0).run(0, -2)
                .run(0, "update A v=3", 1).crash().sees(0, Trial.A, "1 3 1 0").log(0, 4).begin(1, 0).crash().busy(1, false);
    }

    /** A transaction with three records and a mark, cut behind n of them. */
    private static Trial begun(Checks checks, String name) {
        return new Trial(checks, name, 2, 2, 3, 0)
                .run(0, "insert A 1,1,1", 1).run(0, "insert A 2,2,2", 1).begin(3, 0).run(3, "insert A 8,8,8", 1)
                .begin(0, 0).run(0, "update A v=9 where k=1", 1).run(0, "delete A where k=2", 1)
                .run(0, "insert B 3,3,3", 1).text(1, "delete").run(2, "select k from A", 2);
    }

    private static void testCut(Checks checks) {
        for (int n = 0; n < 4; n++) {
            begun(checks, "promise 8: cut before all records are written").cut(0, n, 0)
                    .sees(0, Trial.A, "1 1 1 2; 2 2 2 2").sees(2, Trial.A, "1 1 1 2; 2 2 2 2").rows(0, Trial.B, 0)
                    .log(0, 4).busy(0, false).busy(3, false).rows(3, Trial.A, 0).draft(1, 0).results(2, 0)
                    .commit(0, -8).begin(1, 0).commit(1, 0);
        }
        for (int n : new int[] {4, 5, 30, Integer.MAX_VALUE}) {
            begun(checks, "promise 8: cut behind all records").cut(0, n, 1)
                    .sees(0, Trial.A, "1 9 1 2").sees(2, Trial.B, "3 3 3 2").log(0, 8).busy(0, false).busy(3, false)
                    .rows(3, Trial.A, 0).draft(1, 0).results(2, 0).commit(0, -8).crash().sees(0, Trial.A, "1 9 1 2");
        }
    }

    private static void testCutWithoutRecords(Checks checks) {
        for (int n : new int[] {0, 1, 7}) {
            new Trial(checks, "promise 8: cut of nothing", 2, 2, 3, 0)
                    .run(0, "insert A 1,1,1", 1).begin(0, 0).run(0, "update A v=v", 1).begin(3, 0)
                    .text(1, "delete").cut(0, n, 1).busy(0, false).busy(3, false).draft(1, 0).log(0, 2)
                    .sees(0, Trial.A, "1 1 1 2");
        }
    }

    private static void testCutRefused(Checks checks) {
        begun(checks, "promise 8: no such session, or n below 0").cut(-1, 0, -1).cut(4, 9, -1).cut(0, -1, -1)
                .cut(2, -1, -1).cut(0, Integer.MIN_VALUE, -1).cut(2, 0, -8).cut(1, 4, -8).busy(0, true).busy(3, true)
                .draft(1, 6).results(2, 2).sees(1, Trial.A, "1 9 1 2").commit(0, 4);
        Trial trial = new Trial(checks, "promise 8: records that do not fit", 2, 2, 3, 0);
        for (int i = 1; i <= 14; i++) {
            trial.run(0, i % 2 == 1 ? "insert A 1,1,1" : "delete A", 1);
        }
        trial.log(0, 28).begin(0, 0).run(0, "insert A 1,1,1", 1).run(0, "insert B 1,1,1", 1).text(1, "delete B");
        trial.cut(0, 0, -5).cut(0, 1, -5).cut(0, 3, -5).cut(0, 99, -5).busy(0, true).draft(1, 8).log(0, 28);
        trial.rows(1, Trial.A, 1).run(0, "delete B", 1).cut(0, 1, 0).log(0, 28).rows(1, Trial.A, 0).draft(1, 0);
        trial.begin(0, 0).run(0, "insert B 1,1,1", 1).cut(0, 2, 1).log(0, 30).rows(1, Trial.B, 1);
        trial.begin(0, 0).run(0, "delete B", 1).cut(0, 0, -5).abort(0, 0).begin(0, 0).cut(0, 0, 1);
    }
}
