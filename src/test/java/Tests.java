/** Counts tests, each with a name of its own, and ends the run as .ci/run wants it. */
final class Tests {
    private final String suite;
    private String name = "";
    private boolean isWrong;
    private int passed;
    private int failed;

    Tests(String suite) {
        this.suite = suite;
    }

    void test(String name, Runnable body) {
        this.name = name;
        isWrong = false;
        body.run();
        passed += isWrong ? 0 : 1;
        failed += isWrong ? 1 : 0;
    }

    void due(String call, int got, int want) {
        if (got != want) {
            isWrong = true;
            System.out.println(suite + ", " + name + ": " + call + " answered " + got + ", due is " + want);
        }
    }

    void end() {
        System.out.println(suite + ": " + passed + " passed, " + failed + " failed");
        if (failed != 0) {
            System.exit(1);
        }
    }
}
