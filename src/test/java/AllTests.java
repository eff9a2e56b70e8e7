/** Runs every test of the project; ends with exit code 1 if a check failed. */
public final class AllTests {
    public static void main(String[] args) {
        Checks checks = new Checks();
        FaceTest.test(checks);
        ReadmeTest.test(checks);
        NewObjectTest.test(checks);
        DraftTest.test(checks);
        TextTest.test(checks);
        ChangeTest.test(checks);
        SelectTest.test(checks);
        TransactionTest.test(checks);
        CrashTest.test(checks);
        SeenTest.test(checks);
        LabelBoundsTest.test(checks);
        TextBoundsTest.test(checks);
        NestBoundsTest.test(checks);
        ChangeBoundsTest.test(checks);
        SelectBoundsTest.test(checks);
        LogBoundsTest.test(checks);
        CallBoundsTest.test(checks);
        ModelTest.test(checks);
        SecrecyTest.test(checks);
        System.out.println(checks.passed + " passed, " + checks.failed + " failed");
        if (checks.failed != 0) {
            System.exit(1);
        }
    }
}
