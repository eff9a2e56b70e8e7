/** Promises 1 and 10: a new object, and the labels of its sessions. */
final class NewObjectTest {
    static void test(Checks checks) {
        Trial empty = new Trial(checks, "promise 1: empty", 0, 3, 5, 7);
        for (int session = 0; session < 4; session++) {
            empty.draft(session, 0).log(session, 0).results(session, 0).value(session, 0, 0, 0);
            empty.busy(session, false);
            for (int table = 0; table < 2; table++) {
                empty.rows(session, table, 0).cell(session, table, 0, 0, -1);
            }
        }
        new Trial(checks, "promise 10: labels", 0, 3, 5, 7)
                .label(0, 0).label(1, 3).label(2, 5).label(3, 7);
        new Trial(checks, "promise 10: the lowest three bits", 8, -1, Integer.MIN_VALUE, Integer.MAX_VALUE)
                .label(0, 0).label(1, 7).label(2, 0).label(3, 7);
        new Trial(checks, "promise 10: the lowest three bits", 13, -6, 22, 1 << 30 | 4)
                .label(0, 5).label(1, 2).label(2, 6).label(3, 4);
        new Trial(checks, "promise 10: no such session", 1, 1, 1, 1)
                .label(-1, -1).label(4, -1).label(Integer.MIN_VALUE, -1).label(Integer.MAX_VALUE, -1);
    }
}
