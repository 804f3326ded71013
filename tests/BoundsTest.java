import java.lang.reflect.Method;

/** Each promise has tests of its cases at the bounds. */
public final class BoundsTest {
    private static final Class<?>[] TESTS = {BoundsTapeTest.class, BoundsFunctionsTest.class, BoundsFormsTest.class,
        BoundsPathsTest.class, BoundsEndsTest.class, BoundsConnectionsTest.class, BoundsServerTest.class, BoundsClientTest.class,
        BoundsLinesTest.class, BoundsOfficeTest.class, BoundsLogsTest.class};

    public static void main(String[] args) {
        int[] counts = new int[100];
        for (Class<?> tests : TESTS) {
            for (Method test : Bounds.of(tests)) {
                counts[Integer.parseInt(test.getName().substring(7, 9))]++;
            }
        }
        for (int promise = 0; promise < counts.length; promise++) {
            boolean one = promise >= 1 && promise <= 68;
            Check.that("promise " + promise + " has tests of its own", counts[promise] > 0 == one);
        }
        Check.end("BoundsTest");
    }
}
