/** The boundary cases of the calls, promise by promise and a sentence of the document at a time. */
final class CallBoundsTest {
    /** What no session's number is. */
    private static final int[] NO_SESSIONS = {-1, 4, 5, 256, 1 << 16, Integer.MAX_VALUE, Integer.MIN_VALUE,
            Integer.MIN_VALUE + 3};

    static void test(Checks checks) {
        testNewObject(checks);
        testWriteBytes(checks);
        testWriteCodes(checks);
        testWriteRoom(checks);
        testWriteNoSession(checks);
        testRunEmptiesTheDraft(checks);
        testRunResults(checks);
        testBegin(checks);
        testCommit(checks);
        testAbort(checks);
        testCut(checks);
        testCutNone(checks);
        testBusy(checks);
        testRowsAndCells(checks);
        testResultsAndValues(checks);
        testDraft(checks);
        testNoSession(checks);
    }

    private static void testNewObject(Checks checks) {
        for (int label = 0; label < 8; label++) {
            Trial trial = new Trial(checks, "promise 1: no rows, empty drafts and logs, no results",
                    label, 7 - label, 0, 7);
            for (int session = 0; session < 4; session++) {
                trial.rows(session, Trial.A, 0).rows(session, Trial.B, 0).cell(session, Trial.A, 0, 0, -1)
                        .draft(session, 0).log(session, 0).results(session, 0).value(session, 0, 0, 0)
                        .busy(session, false).checkpoint(session, 0).run(session, -2)
                        .select(session, "select k from A", "").commit(session, -8);
            }
        }
    }

    private static void testWriteBytes(Checks checks) {
        String sentence = "promise 2: up to eight characters, whose codes are the eight bytes of w from the highest on";
        new Trial(checks, sentence, 0, 0, 0, 0).write(0, Trial.pack("insert B"), true).draft(0, 8)
                .write(0, Trial.pack("12,34,56"), true).draft(0, 16).run(0, 1).sees(0, Trial.B, "12 34 56 0")
                .write(0, Trial.pack("delete B"), true).run(0, 1);
        sentence = "promise 2: but for those that are 0";
        new Trial(checks, sentence, 0, 0, 0, 0).write(0, 0, true).draft(0, 0).run(0, -2);
        for (int shift = 0; shift < 64; shift += 8) {
            new Trial(checks, sentence, 0, 0, 0, 0).text(0, "delete ").write(0, (long) 'A' << shift, true).draft(0, 8)
                    .run(0, 0);
            // The other seven bytes, with nothing in the place of one of them.
            long below = (1L << shift) - 1;
            long seven = Trial.pack("insertA");
            long w = (seven & ~below) << 8 | seven & below;
            new Trial(checks, sentence, 0, 0, 0, 0).write(0, w, true).draft(0, 7).text(0, "1,2,3").run(0, 1)
                    .rows(0, Trial.A, 1);
        }
        new Trial(checks, sentence, 0, 0, 0, 0).write(0, 0x6400650000006c00L, true).write(0, 0x0000006500746500L, true)
                .write(0, 0x0041000000000000L, true).draft(0, 7).run(0, 0);
    }

    private static void testWriteCodes(Checks checks) {
        String sentence = "promise 2: false, changing nothing, when one of the others is not 32 .. 126";
        for (int code = 1; code < 256; code++) {
            boolean taken = code >= 32 && code <= 126;
            Trial trial = new Trial(checks, sentence, 0, 0, 0, 0).text(0, "delete");
            for (int shift = 0; shift < 64; shift += 8) {
                trial.write(0, (long) code << shift, taken);
            }
            trial.draft(0, taken ? 14 : 6).write(0, Trial.pack("       ") | (long) code << 56, taken)
                    .draft(0, taken ? 22 : 6).write(0, Trial.pack("       ") << 8 | code, taken)
                    .draft(0, taken ? 30 : 6);
            if (!taken) {
                trial.text(0, " A").run(0, 0);
            }
        }
    }

    private static void testWriteRoom(Checks checks) {
        String sentence = "promise 2: false, changing nothing, when they are more than there is room for";
        for (int length = 71; length <= 80; length++) {
            for (int more = 0; more <= 8; more++) {
                boolean fit = length + more <= 80;
                new Trial(checks, sentence, 0, 0, 0, 0).text(0, "delete" + " ".repeat(length - 7) + "A")
                        .write(0, Trial.pack(" ".repeat(more)), fit).draft(0, fit ? length + more : length).run(0, 0)
                        .draft(0, 0);
            }
        }
        new Trial(checks, sentence, 0, 0, 0, 0).text(0, "delete" + " ".repeat(73)).write(0, 'A', true).draft(0, 80)
                .write(0, 'A', false).write(0, 0x4100000000000000L, false).write(0, 0, true).write(1, 'A', true)
                .draft(0, 80).draft(1, 1).run(0, 0).text(0, "delete" + " ".repeat(73)).write(0, Trial.pack("AA"), false)
                .draft(0, 79).write(0, 'A', true).run(0, 0);
    }

    private static void testWriteNoSession(Checks checks) {
        Trial trial = new Trial(checks, "promise 2: false, changing nothing, when there is no such session",
                0, 0, 0, 0);
        for (int session : NO_SESSIONS) {
            trial.write(session, 'A', false).write(session, 0, false).write(session, 31, false);
        }
        for (int session = 0; session < 4; session++) {
            trial.draft(session, 0).write(session, 'A', true).draft(session, 1);
        }
    }

    private static void testRunEmptiesTheDraft(Checks checks) {
        Trial trial = new Trial(checks, "promise 3: runs a session's draft, which is empty then", 1, 1, 1, 2)
                .fill(0, "A", 1, 6);
        trial.run(0, "delete", -2).draft(0, 0).run(0, "insert A k,1,1", -3).draft(0, 0).run(0, "insert A 1,1,1", -4)
                .draft(0, 0);
        trial.run(0, "insert A 7,1,1", -5).draft(0, 0).run(0, "select k from A", 6).draft(0, 0).run(0, "delete B", 0)
                .draft(0, 0);
        trial.begin(1, 0).run(0, "delete A", -6).draft(0, 0).run(0, -2).fill(1, "B", 1, 6).fill(3, "A", 1, 1)
                .text(2, "delete A");
        trial.run(1, "select 1 from A,B", 36).draft(1, 0).draft(2, 8).run(3, -2).draft(2, 8).run(-1, -1).run(4, -1)
                .draft(2, 8);
        trial.commit(1, 7).run(2, 6).draft(2, 0);
        new Trial(checks, "promise 3: it is empty with -7, too", 0, 1, 1, 1).fill(0, "A", 1, 6).fill(0, "B", 1, 6)
                .fill(1, "A", 1, 1).run(1, "select 1 from A,B", -7).draft(1, 0).run(1, -2);
    }

    private static void testRunResults(Checks checks) {
        Trial trial = new Trial(checks,
                "promise 3: its results are those of this statement, when it is a select that answers 0 or more;"
                + " otherwise (also with -7) they stay", 0, 1, 1, 1);
        trial.fill(0, "A", 1, 6).fill(0, "B", 1, 6).run(1, "insert A 7,8,9", 1)
                .select(1, "select k,v,w from A where k=7", "7 8 9");
        trial.run(1, "select k,v,w", -2).gave(1, "7 8 9").run(1, -2).gave(1, "7 8 9").run(1, "select B.k from A", -3)
                .gave(1, "7 8 9");
        trial.run(1, "insert A 7,1,1", -4).gave(1, "7 8 9").run(1, "insert A 8,1,1", 1).gave(1, "7 8 9")
                .run(1, "update A v=1", -5);
        trial.gave(1, "7 8 9").run(1, "update A v=1 where k=8", 1).gave(1, "7 8 9").run(1, "delete A where k=8", 1)
                .gave(1, "7 8 9");
        trial.run(1, "select 1 from A,B", -7).gave(1, "7 8 9").begin(2, 0).run(1, "delete A", -6).gave(1, "7 8 9")
                .commit(2, 0);
        trial.begin(1, 0).abort(1, 0).checkpoint(1, 2).gave(1, "7 8 9").select(2, "select count from B", "6")
                .gave(1, "7 8 9");
        trial.select(1, "select v from A where k>5", "0; 8").gave(2, "6").select(1, "select k from A where k>7", "")
                .gave(2, "6");
    }

    private static void testBegin(Checks checks) {
        new Trial(checks, "promise 4: -6 when a session of the same label (this one, too) has one", 5, 5, 4, 7)
                .begin(0, 0).begin(0, -6).begin(1, -6).begin(2, 0).begin(3, 0).begin(2, -6).busy(0, true).busy(1, false)
                .run(0, "insert A 1,1,1", 1).begin(0, -6).rows(0, Trial.A, 1).abort(0, 0).begin(1, 0).begin(0, -6)
                .commit(1, 0).begin(0, 0).crash().begin(1, 0).cut(1, 0, 1).begin(0, 0).begin(2, 0).begin(3, 0);
    }

    private static void testCommit(Checks checks) {
        new Trial(checks,
                "promise 5: how many records were written, the mark too (0 when nothing is another one);"
                + " -8 when it has none",
                5, 5, 4, 7)
                .commit(0, -8).begin(0, 0).commit(1, -8).commit(2, -8).commit(0, 0).commit(0, -8).begin(1, 0)
                .commit(0, -8).run(1, "insert A 1,1,1", 1).commit(1, 2).busy(1, false).commit(1, -8).begin(0, 0)
                .run(0, "insert A 2,1,1", 1).run(0, "insert B 2,1,1", 1).commit(0, 3).rows(3, Trial.A, 2).begin(0, 0)
                .crash().commit(0, -8);
    }

    private static void testAbort(Checks checks) {
        new Trial(checks, "promise 6: the transaction is over, and nothing remains of it: 0; -8 when it has none",
                5, 5, 4, 7)
                .abort(0, -8).run(0, "insert A 1,1,1", 1).begin(0, 0).abort(1, -8).abort(2, -8)
                .run(0, "update A v=9", 1).run(0, "insert B 2,2,2", 1).select(1, "select v from A", "9").text(0, "x")
                .abort(0, 0).abort(0, -8).busy(0, false).sees(0, Trial.A, "1 1 1 5").sees(3, Trial.A, "1 1 1 5")
                .rows(1, Trial.B, 0).log(0, 2).gave(1, "9").draft(0, 1).begin(1, 0).sees(1, Trial.A, "1 1 1 5")
                .commit(1, 0).begin(0, 0).crash().abort(0, -8);
    }

    private static void testCut(Checks checks) {
        new Trial(checks, "promise 8: -1 when there is no such session or n is below 0; -8 when it has none",
                5, 5, 4, 7)
                .cut(0, 0, -8).cut(0, -1, -1).cut(0, 1, -8).begin(0, 0).cut(0, -1, -1).cut(0, Integer.MIN_VALUE, -1)
                .cut(1, 0, -8).cut(1, -1, -1).cut(-1, -1, -1).cut(4, 0, -1).cut(-1, 0, -1).busy(0, true).text(0, "x")
                .cut(2, 5, -8).draft(0, 1).run(1, "select k from A", 0).cut(0, 0, 1).draft(0, 0).busy(0, false)
                .cut(0, 0, -8).begin(0, 0).cut(0, Integer.MAX_VALUE, 1);
        new Trial(checks, "promise 8: -5 when they do not fit (no crash comes then, and the transaction goes on)",
                5, 5, 4, 7)
                .records(0, 29).begin(3, 0).begin(0, 0).fill(0, "A", 1, 1).text(1, "xy")
                .select(2, "select 1 from A", "").cut(0, 0, -5).cut(0, 1, -5).cut(0, 2, -5).cut(0, 3, -5).cut(0, -1, -1)
                .busy(0, true).busy(3, true).draft(1, 2).rows(0, Trial.A, 1).rows(3, Trial.A, 0).log(0, 29)
                .commit(0, -5).run(0, "delete A", 1).cut(0, 0, 1).busy(3, false).draft(1, 0).log(0, 29);
    }

    private static void testCutNone(Checks checks) {
        for (int n = 0; n < 3; n++) {
            new Trial(checks, "promise 8: a crash comes, in any case: 1 (also when there are none)", 5, 5, 4, 7)
                    .run(0, "insert A 1,1,1", 1).begin(0, 0).begin(2, 0).run(2, "insert A 1,1,1", 1).text(3, "x")
                    .select(1, "select k from A", "1").cut(0, n, 1).busy(0, false).busy(2, false).draft(3, 0)
                    .gave(1, "").rows(2, Trial.A, 0).sees(0, Trial.A, "1 1 1 5").log(0, 2);
        }
    }

    private static void testBusy(Checks checks) {
        Trial trial = new Trial(checks,
                "promise 11: whether a session has a transaction; false when there is no such session", 5, 5, 4, 7)
                .busy(0, false).begin(0, 0).busy(0, true).busy(1, false).busy(2, false).busy(3, false).begin(3, 0)
                .busy(3, true);
        for (int session : NO_SESSIONS) {
            trial.busy(session, false);
        }
        trial.commit(0, 0).busy(0, false).begin(1, 0).busy(0, false).busy(1, true).abort(1, 0).busy(1, false)
                .busy(3, true);
        trial.run(0, "insert A 1,1,1", 1).busy(0, false).crash().busy(3, false);
    }

    private static void testRowsAndCells(Checks checks) {
        String sentence = "promise 14: of the k-th (from 0) row: -1 when there is none, or w is not 0 .. 3";
        Trial trial = new Trial(checks, sentence, 5, 0, 0, 0).cell(0, Trial.A, 0, 0, -1).run(0, "insert A 11,12,13", 1);
        trial.run(0, "insert A 21,22,23", 1).cell(0, Trial.A, 0, 0, 11).cell(0, Trial.A, 0, 1, 12)
                .cell(0, Trial.A, 0, 2, 13);
        trial.cell(0, Trial.A, 0, 3, 5).cell(0, Trial.A, 1, 0, 21).cell(0, Trial.A, 1, 3, 5).cell(0, Trial.A, 2, 0, -1);
        trial.cell(0, Trial.A, -1, 0, -1).cell(0, Trial.A, 0, -1, -1).cell(0, Trial.A, 0, 4, -1)
                .cell(0, Trial.B, 0, 0, -1);
        for (int far : new int[] {Integer.MAX_VALUE, Integer.MIN_VALUE, 48, 49, 100}) {
            trial.cell(0, Trial.A, far, 0, -1).cell(0, Trial.A, 0, far, -1).cell(0, far, 0, 0, -1).rows(0, far, -1);
        }
        trial.rows(0, Trial.A, 2).rows(0, Trial.B, 0).rows(0, -1, -1).rows(0, 2, -1).rows(1, Trial.A, 0).rows(1, 2, -1);
        trial.run(0, "delete A where k=11", 1).cell(0, Trial.A, 0, 0, 21).cell(0, Trial.A, 1, 0, -1)
                .cell(1, Trial.A, 0, 0, -1);
        for (int session : NO_SESSIONS) {
            trial.rows(session, Trial.A, -1).cell(session, Trial.A, 0, 0, -1).rows(session, 2, -1);
        }
    }

    private static void testResultsAndValues(Checks checks) {
        Trial trial = new Trial(checks,
                "promises 15 and 16: how many result rows; value c of result row r; 0 when there is none", 5, 5, 0, 0);
        trial.fill(0, "A", 1, 3).select(0, "select 7,8,9 from A", "7 8 9; 7 8 9; 7 8 9").value(0, 2, 2, 9)
                .value(0, 3, 2, 0);
        trial.value(0, 2, 3, 0).value(0, -1, 0, 0).value(0, 0, -1, 0).value(1, 0, 0, 0).results(1, 0).results(2, 0);
        for (int far : new int[] {Integer.MAX_VALUE, Integer.MIN_VALUE, 39, 40, 41}) {
            trial.value(0, far, 0, 0).value(0, 0, far, 0).value(far, 0, 0, 0).results(far, -1);
        }
        // What an earlier statement gave is gone, in the rows and in the columns.
        trial.select(0, "select 6,5 from A where k=1", "6 5").value(0, 0, 1, 5).value(0, 0, 2, 0).value(0, 1, 0, 0);
        trial.select(0, "select 4 from A where k<3", "4; 4").value(0, 0, 1, 0).value(0, 1, 1, 0).value(0, 2, 0, 0);
        trial.select(0, "select 3,2,1 from A where k>3", "").value(0, 0, 0, 0).results(0, 0);
        for (int session : NO_SESSIONS) {
            trial.results(session, -1).value(session, 0, 0, 0);
        }
    }

    private static void testDraft(Checks checks) {
        Trial trial = new Trial(checks,
                "promise 17: the length of a session's draft; -1 when there is no such session", 0, 0, 0, 0)
                .draft(0, 0).text(0, "a").draft(0, 1).text(0, "   ").draft(0, 4).draft(1, 0).text(3, "x".repeat(80))
                .draft(3, 80).draft(2, 0).begin(0, 0).commit(0, 0).draft(0, 4).draft(3, 80).run(3, -2).draft(3, 0)
                .draft(0, 4).crash().draft(0, 0);
        for (int session : NO_SESSIONS) {
            trial.draft(session, -1);
        }
    }

    /** Calls that no session makes answer so whatever else stands, and leave it all as it was. */
    private static void testNoSession(Checks checks) {
        Trial trial = new Trial(checks, "-1 when there is no such session", 5, 5, 4, 7).run(0, "insert A 1,1,1", 1);
        trial.begin(0, 0).begin(3, 0).text(0, "delete A").text(3, "x").select(2, "select 1 from A", "");
        for (int session : NO_SESSIONS) {
            trial.run(session, -1).begin(session, -1).commit(session, -1).abort(session, -1).checkpoint(session, -1)
                    .cut(session, 0, -1).cut(session, 9, -1).cut(session, -1, -1).label(session, -1).log(session, -1);
        }
        trial.busy(0, true).busy(3, true).draft(0, 8).draft(3, 1).log(0, 2).run(0, 1).commit(0, 2).log(0, 4)
                .abort(3, 0);
    }
}
