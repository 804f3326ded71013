/** Counts answers that are not as due, and tells each. */
final class Check {
    private static int wrong = 0;
    private static int looked = 0;

    private Check() {
    }

    static void due(String call, long got, long want) {
        looked++;
        if (got != want) {
            wrong++;
            System.out.println(call + " answered " + got + ", due is " + want);
        }
    }

    static void that(String what, boolean good) {
        due(what, good ? 1 : 0, 1);
    }

    /** Ends the test: with exit code 1 if an answer was not as due. */
    static void end(String test) {
        System.out.println(test + ": " + looked + " looked at, " + wrong + " not as due");
        if (wrong > 0 || looked == 0) {
            System.exit(1);
        }
    }
}
