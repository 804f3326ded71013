import java.util.Arrays;

/** Counts answers that are not as due, and tells each. */
final class Check {
    private static int wrong = 0;
    private static int looked = 0;
    /** What stands ahead of each call that is told. */
    private static String place = "";

    private Check() {
    }

    /** From now on calls are told as those of a test of this name. */
    static void in(String test) {
        place = test + ": ";
    }

    static int looked() {
        return looked;
    }

    static void due(String call, long got, long want) {
        looked++;
        if (got != want) {
            wrong++;
            System.out.println(place + call + " answered " + got + ", due is " + want);
        }
    }

    /** OUT is these bytes. */
    static void out(String what, SecureLines x, byte[]... rows) {
        byte[] due = Own.cat(rows);
        due(what + ": how many bytes OUT has", x.out(-1), due.length);
        that(what + ": OUT", Arrays.equals(Own.out(x), due));
    }

    /** THE TAPE is these bytes; it is empty then. */
    static void tape(String what, SecureLines x, byte[]... rows) {
        due(what + ": THE TAPE", x.digest(0), Own.digest(0, rows));
    }

    static void that(String what, boolean good) {
        due(what, good ? 1 : 0, 1);
    }

    /** Ends the test: with exit code 1 if an answer was not as due. */
    static void end(String test) {
        System.out.println(test + ": " + looked + " looked at, " + wrong + " not as due");
        if (wrong > 0 || looked == 0) {
            System.exit(1);
        }
    }
}
