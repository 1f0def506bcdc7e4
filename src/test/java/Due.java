/** What a test found: each answer that is not the one that is due is printed and counted. */
final class Due {
    private static final long MOST_MILLISECONDS = 600_000;

    private final String test;
    private int asked = 0;
    private int wrong = 0;

    Due(String test) {
        this.test = test;
        Thread watch = new Thread(this::failLate);
        watch.setDaemon(true);
        watch.start();
    }

    /** A call that never ends must fail its test, too. */
    private void failLate() {
        try {
            Thread.sleep(MOST_MILLISECONDS);
        } catch (InterruptedException ended) {
            return;
        }
        System.out.println(test + ": not at its end in " + MOST_MILLISECONDS / 1000 + " seconds");
        Runtime.getRuntime().halt(1);
    }

    void is(String call, long got, long want) {
        asked++;
        if (got == want) return;
        wrong++;
        System.out.println(test + ": " + call + " answered " + got + ", due is " + want);
    }

    void isTrue(String fact, boolean holds) {
        is(fact, holds ? 1 : 0, 1);
    }

    int wrong() {
        return wrong;
    }

    /** Ends the test, with exit code 1 if an answer was wrong. */
    void end() {
        System.out.println(test + ": " + asked + " answers, " + wrong + " not as due");
        if (wrong > 0) System.exit(1);
    }
}
