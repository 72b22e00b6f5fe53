/** Counts what answers as it is due, and prints each call that does not, by its line. */
final class Checks {
    private static final int PROMISES = 45;

    private final boolean[] seen = new boolean[PROMISES + 1];
    private int promise = 0;
    private int passed = 0;
    private int failed = 0;

    /** What follows tests this promise. */
    void promise(int number) {
        promise = number;
        seen[number] = true;
    }

    void is(long got, long due) {
        if (got == due) {
            passed++;
            return;
        }
        failed++;
        StackTraceElement line = new Throwable().getStackTrace()[1];
        System.out.println("promise " + promise + ", " + line.getFileName() + ":"
            + line.getLineNumber() + ": answered " + got + ", due is " + due);
    }

    /** An answer of 1 whose number asked() tells. */
    void tells(ClockFeet x, long got, long dueAsked) {
        if (got == 1 && x.asked() == dueAsked) {
            passed++;
            return;
        }
        failed++;
        StackTraceElement line = new Throwable().getStackTrace()[1];
        System.out.println("promise " + promise + ", " + line.getFileName() + ":"
            + line.getLineNumber() + ": answered " + got + " and told " + x.asked()
            + ", due are 1 and " + dueAsked);
    }

    /** A FINDING: the answer, which one it was, and that it was counted once. */
    void finds(ClockFeet x, int answer, int finding) {
        if (answer == ClockFeet.FINDING && x.finding() == finding) {
            passed++;
            return;
        }
        failed++;
        StackTraceElement line = new Throwable().getStackTrace()[1];
        System.out.println("promise " + promise + ", " + line.getFileName() + ":"
            + line.getLineNumber() + ": answered " + answer + " with finding " + x.finding()
            + ", due are -3 and " + finding);
    }

    void wrong(String what) {
        failed++;
        System.out.println(what);
    }

    void right() {
        passed++;
    }

    boolean allRight() {
        for (int number = 1; number <= PROMISES; number++) {
            if (!seen[number]) {
                wrong("promise " + number + " has no test");
            }
        }
        System.out.println("checks: " + passed + " as due, " + failed + " not");
        return failed == 0;
    }
}
