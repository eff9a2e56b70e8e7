/** Promises 2, 3 (the draft is empty after a run) and 17. */
final class DraftTest {
    static void test(Checks checks) {
        testPacking(checks);
        testRefusals(checks);
        testRoom(checks);
        testRunEmpties(checks);
    }

    private static void testPacking(Checks checks) {
        new Trial(checks, "promise 2: nothing to append", 0, 0, 0, 0)
                .write(0, 0, true).draft(0, 0);
        new Trial(checks, "promise 2: noughts are left out wherever they stand", 0, 0, 0, 0)
                .write(0, 0x6400650000006c00L, true).draft(0, 3)
                .write(0, 0x0000000065746500L, true).draft(0, 6)
                .write(0, 0x4100000000000000L, true).draft(0, 7)
                .run(0, 0).draft(0, 0);
        new Trial(checks, "promise 2: the highest byte comes first", 0, 0, 0, 0)
                .write(0, Trial.pack("insert B"), true).write(0, Trial.pack("12,3,4"), true)
                .draft(0, 14).run(0, 1).sees(0, Trial.B, "12 3 4 0");
        new Trial(checks, "promise 17: each session has its own", 0, 0, 1, 2)
                .text(0, "delete A").text(1, "del").text(2, "x").draft(0, 8).draft(1, 3).draft(2, 1).draft(3, 0)
                .draft(-1, -1).draft(4, -1);
    }

    private static void testRefusals(Checks checks) {
        Trial trial = new Trial(checks, "promise 2: refusals change nothing", 0, 1, 2, 3);
        trial.text(0, "del").write(-1, 65, false).write(4, 65, false).write(4, 0, false);
        for (int shift = 0; shift < 64; shift += 8) {
            trial.write(0, 31L << shift, false).write(0, 127L << shift, false).write(0, 255L << shift, false);
            trial.write(0, 128L << shift, false).write(0, 1L << shift, false).draft(0, 3);
        }
        trial.write(0, Trial.pack("abcdefg") << 8 | 31, false);
        trial.write(0, Trial.pack("abc\u0007defg"), false).draft(0, 3);
        trial.text(0, "ete A").run(0, 0);
        new Trial(checks, "promise 2: 32 and 126 are taken", 0, 0, 0, 0)
                .write(0, 32, true).write(0, 126, true).write(0, 32L << 56 | 126, true).draft(0, 4).run(0, -2);
    }

    private static void testRoom(Checks checks) {
        Trial full = new Trial(checks, "promise 2: at most 80 characters", 0, 0, 0, 0);
        for (int i = 0; i < 9; i++) {
            full.write(0, Trial.pack("        "), true);
        }
        full.draft(0, 72).text(0, "de").draft(0, 74).write(0, Trial.pack("1234567"), false).draft(0, 74);
        full.text(0, "lete A").draft(0, 80).write(0, Trial.pack("B"), false).write(0, 0, true).draft(0, 80);
        full.run(0, 0).draft(0, 0).text(0, "delete B").run(0, 0);
        Trial almost = new Trial(checks, "promise 2: noughts need no room", 0, 0, 0, 0);
        for (int i = 0; i < 9; i++) {
            almost.write(0, Trial.pack("        "), true);
        }
        almost.text(0, "delete").write(0, 0x4100000000000000L, true).write(0, 0x2000L, true).draft(0, 80);
        almost.write(0, 0x20L, false).run(0, 0);
    }

    private static void testRunEmpties(Checks checks) {
        new Trial(checks, "promise 3: a run empties the draft, whatever it answers", 1, 1, 0, 0)
                .run(0, "nonsense", -2).draft(0, 0)
                .run(0, "insert A k,1,1", -3).draft(0, 0)
                .run(0, "insert A 1,1,1", 1).draft(0, 0)
                .run(0, "insert A 1,1,1", -4).draft(0, 0)
                .begin(1, 0).run(0, "delete A", -6).draft(0, 0).abort(1, 0)
                .text(1, "delete B").run(0, "select k from A", 1).draft(0, 0).draft(1, 8)
                .run(-1, -1).run(4, -1).draft(1, 8).run(1, 0).draft(1, 0);
    }
}
