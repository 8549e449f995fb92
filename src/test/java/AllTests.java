/** Runs the tests of the project; ends with exit code 1 if an answer is not as due. */
public final class AllTests {
    private static final long LONGEST_MILLIS = 300_000;

    private AllTests() {
    }

    public static void main(String[] args) {
        watch();
        run("subscribers", SubscribersTest::run);
        run("events and ticks", EventsAndTicksTest::run);
        run("values", ValuesTest::run);
        run("what if", WhatIfTest::run);
        run("commands", CommandsTest::run);
        run("undo and digest", UndoAndDigestTest::run);
        run("bounds of promises 1 to 6", SubscriberBoundsTest::run);
        run("bounds of promises 7 and 8", EventBoundsTest::run);
        run("bounds of promises 9 to 14", ValueBoundsTest::run);
        run("bounds of promises 15 to 20", WhatIfBoundsTest::run);
        run("bounds of promises 21 to 23", TextBoundsTest::run);
        run("bounds of promises 24 and 25", UndoBoundsTest::run);
        run("quotes", Quotes::check);
        run("README.md", ReadmeTest::run);
        run("model", ModelTest::run);
        System.out.println("answers: " + Due.passed + " as due, " + Due.failed + " not");
        System.exit(Due.failed == 0 ? 0 : 1);
    }

    private static void run(String name, Runnable tests) {
        Due.topic(name);
        try {
            tests.run();
        } catch (RuntimeException | Error e) {
            Due.fail("stopped by " + e);
        }
    }

    /** A call that does not end must fail the run, not hold it up. */
    private static void watch() {
        Thread watchdog = new Thread(() -> {
            try {
                Thread.sleep(LONGEST_MILLIS);
            } catch (InterruptedException e) {
                return;
            }
            System.out.println("the tests did not end in time");
            Runtime.getRuntime().halt(1);
        });
        watchdog.setDaemon(true);
        watchdog.start();
    }
}
