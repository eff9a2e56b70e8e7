/** Counts the checks of all tests, and prints those that fail. */
final class Checks {
    int passed = 0;
    int failed = 0;

    void same(String what, long due, long answered) {
        if (due == answered) {
            passed++;
        } else {
            failed++;
            System.out.println(what + " answered " + answered + ", due is " + due);
        }
    }
}
