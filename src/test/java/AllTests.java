/** Runs every test of the project; ends with exit code 1 if one fails. */
public final class AllTests {
    public static void main(String[] args) {
        Check check = new Check();
        FaceTests.all(check);
        ReadmeTests.all(check);
        PromiseTests.all(check);
        EdgeTests.all(check);
        FanTests.all(check);
        RefusalTests.all(check);
        SweepTests.all(check);
        RunTests.all(check);
        check.report();
        if (check.failures() > 0) {
            System.exit(1);
        }
    }
}
