/** Counts which answers were due and which were not, and prints the latter. */
final class Check {
    private int passed;
    private int failed;

    interface Call {
        Object answer();
    }

    void same(String what, Object got, Object want) {
        if (want.equals(got)) {
            passed++;
        } else {
            failed++;
            System.out.println("WRONG " + what + ": answered " + got + ", due is " + want);
        }
    }

    void refused(String what, Class<? extends RuntimeException> want, Call call) {
        same(what, outcome(call), "throws." + want.getSimpleName());
    }

    /** What a call answers, or the name of what it throws behind "throws.". */
    static Object outcome(Call call) {
        try {
            return call.answer();
        } catch (RuntimeException e) {
            return "throws." + e.getClass().getSimpleName();
        }
    }

    int failures() {
        return failed;
    }

    void report() {
        System.out.println(passed + " passed, " + failed + " failed");
    }
}
