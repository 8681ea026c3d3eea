/** Counts and prints answers that are not as due. */
final class Check {
    // Far above what any test needs.
    private static final long MOST_MILLISECONDS = 120000;

    private final String name;
    private volatile String latest = "none";
    private int looked;
    private int wrong;

    Check(String name) {
        this.name = name;
        Thread watch = new Thread(this::giveUp);
        watch.setDaemon(true);
        watch.start();
    }

    /** A call that does not end is a wrong answer, too. */
    private void giveUp() {
        try {
            Thread.sleep(MOST_MILLISECONDS);
        } catch (InterruptedException e) {
            return;
        }
        System.out.println(name + ": did not end, the latest call that did was " + latest);
        Runtime.getRuntime().halt(1);
    }

    void due(String call, long got, long want) {
        looked++;
        latest = call;
        if (got != want) {
            wrong++;
            System.out.println(name + ": " + call + " answered " + got + ", due is " + want);
        }
    }

    void isTrue(String claim, boolean holds) {
        due(claim, holds ? 1 : 0, 1);
    }

    /** Ends the program: with exit code 1 if an answer was wrong. */
    void close() {
        System.out.println(name + ": " + looked + " answers, " + wrong + " wrong");
        if (wrong != 0) {
            System.exit(1);
        }
    }
}
