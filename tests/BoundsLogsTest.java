import java.util.Arrays;

/** Promises 62 to 68 at their bounds: logs. */
public final class BoundsLogsTest {
    private static final int[] NO_LOG = {-1, 1, 4, Integer.MIN_VALUE, Integer.MAX_VALUE};

    public static void main(String[] args) throws ReflectiveOperationException {
        Bounds.run(BoundsLogsTest.class);
    }

    private static long entry(int i) {
        return i * 0x123456789abcdefL - 5;
    }

    private static long leaf(long entry) {
        return Own.digest(0, Own.bytes(0), Own.secret(entry));
    }

    private static long knot(long left, long right) {
        return Own.digest(0, Own.bytes(1), Own.secret(left), Own.secret(right));
    }

    private static int half(int n) {
        int k = 1;
        while (2 * k < n) {
            k *= 2;
        }
        return k;
    }

    private static long head(int from, int n) {
        int k = half(n);
        return n == 0 ? Own.digest(0) : n == 1 ? leaf(entry(from)) : knot(head(from, k), head(from + k, n - k));
    }

    private static byte[] inclusion(int from, int i, int n) {
        if (n == 1) {
            return new byte[0];
        }
        int k = half(n);
        return i < k ? Own.cat(inclusion(from, i, k), Own.secret(head(from + k, n - k)))
            : Own.cat(inclusion(from + k, i - k, n - k), Own.secret(head(from, k)));
    }

    private static byte[] sub(int from, int m, boolean whole, int n) {
        if (n == m) {
            return whole ? new byte[0] : Own.secret(head(from, n));
        }
        int k = half(n);
        return m <= k ? Own.cat(sub(from, m, whole, k), Own.secret(head(from + k, n - k)))
            : Own.cat(sub(from + k, m - k, false, n - k), Own.secret(head(from, k)));
    }

    /** An object whose LOG 0 has so many entries. */
    private static SecureLines with(int n) {
        SecureLines x = new SecureLines();
        x.log();
        for (int i = 0; i < n; i++) {
            Check.due("add", x.add(0, entry(i)), i + 1);
        }
        return x;
    }

    /** "FULL: 4". */
    static void promise62_four() {
        SecureLines x = new SecureLines();
        for (int i = 0; i < 4; i++) {
            Check.due("no LOG " + i + " yet", x.head(i, 0), -1);
            Check.due("log", x.log(), i);
            Check.due("it is empty", x.head(i, 0), Own.digest(0));
        }
        Check.due("the fifth", x.log(), -3);
        Check.due("no LOG 4", x.add(4, 1), -1);
        Check.due("the last is there", x.add(3, 1), 1);
    }

    /** "LOGS (4) of 64 entries"; "BAD, FULL". */
    static void promise63_sixtyFour() {
        SecureLines x = with(64);
        Check.due("the 65th", x.add(0, 1), -3);
        Check.due("the HEAD stays", x.head(0, 64), head(0, 64));
        for (int l : NO_LOG) {
            Check.due("log " + l, x.add(l, 1), -1);
        }
        x.log();
        Check.due("another LOG has its own", x.add(1, 1), 1);
        Check.due("the 65th still", x.add(0, 1), -3);
    }

    /** Entries are SECRETS, any longs, perhaps alike. */
    static void promise63_anySecrets() {
        SecureLines x = new SecureLines();
        x.log();
        long[] entries = {0, 0, -1, Long.MIN_VALUE, Long.MAX_VALUE};
        for (int i = 0; i < entries.length; i++) {
            Check.due("add", x.add(0, entries[i]), i + 1);
        }
        Check.due("of one", x.head(0, 1), leaf(0));
        Check.due("of two", x.head(0, 2), knot(leaf(0), leaf(0)));
        Check.due("of five", x.head(0, 5), knot(knot(knot(leaf(0), leaf(0)), knot(leaf(-1), leaf(Long.MIN_VALUE))), leaf(Long.MAX_VALUE)));
    }

    /** "The HEAD of the first n entries. BAD (which it may be)": of none to all. */
    static void promise64_fromNoneToAll() {
        int[] sizes = {0, 1, 2, 63, 64};
        for (int size : sizes) {
            SecureLines x = with(size);
            for (int n = 0; n <= size; n++) {
                Check.due("HEAD of " + n + " of " + size, x.head(0, n), head(0, n));
            }
            int[] bad = {-1, size + 1, 65, Integer.MIN_VALUE, Integer.MAX_VALUE};
            for (int n : bad) {
                Check.due("HEAD of " + n + " of " + size, x.head(0, n), -1);
            }
            for (int l : NO_LOG) {
                Check.due("log " + l, x.head(l, 0), -1);
            }
        }
    }

    /** "BAD": log, n, i; OUT stays then. */
    static void promise65_refusals() {
        SecureLines x = with(5);
        Check.due("inclusion", x.inclusion(0, 4, 5), 8);
        int[][] bad = {{0, -1, 5}, {0, 5, 5}, {0, 0, 0}, {0, 0, 6}, {0, 0, -1}, {0, 3, 3}, {0, Integer.MAX_VALUE, 5}, {0, 0, Integer.MAX_VALUE},
            {0, Integer.MIN_VALUE, 5}, {0, 0, Integer.MIN_VALUE}, {1, 0, 1}, {-1, 0, 1}, {4, 0, 1}};
        for (int[] call : bad) {
            Check.due("inclusion" + Arrays.toString(call), x.inclusion(call[0], call[1], call[2]), -1);
        }
        Check.out("OUT stays", x, Own.secret(head(0, 4)));
        Check.due("of an empty LOG", with(0).inclusion(0, 0, 0), -1);
    }

    /** "none, if n is 1"; the first and the last, below, at and above powers of 2. */
    static void promise65_firstAndLast() {
        SecureLines x = with(64);
        int[] sizes = {1, 2, 3, 4, 5, 7, 8, 9, 15, 16, 17, 31, 32, 33, 63, 64};
        for (int n : sizes) {
            int[] places = {0, n / 2, n - 1};
            for (int i : places) {
                byte[] due = inclusion(0, i, n);
                Check.due("inclusion of " + i + " among " + n, x.inclusion(0, i, n), due.length);
                Check.out("it", x, due);
            }
        }
    }

    /** "BAD: m is not 1 .. n"; log, n; OUT stays then. */
    static void promise66_refusals() {
        SecureLines x = with(5);
        Check.due("consistency", x.consistency(0, 4, 5), 8);
        int[][] bad = {{0, 0, 5}, {0, 6, 5}, {0, -1, 5}, {0, 0, 0}, {0, 1, 0}, {0, 1, 6}, {0, 6, 6}, {0, 1, -1}, {0, Integer.MIN_VALUE, 5},
            {0, Integer.MAX_VALUE, 5}, {0, 1, Integer.MAX_VALUE}, {1, 1, 1}, {-1, 1, 1}, {4, 1, 1}};
        for (int[] call : bad) {
            Check.due("consistency" + Arrays.toString(call), x.consistency(call[0], call[1], call[2]), -1);
        }
        Check.out("OUT stays", x, Own.secret(leaf(entry(4))));
        Check.due("m 1", x.consistency(0, 1, 5), 24);
        Check.due("m n", x.consistency(0, 5, 5), 0);
        Check.out("of none", x);
    }

    /** m of 1, n and those about powers of 2, among n about powers of 2. */
    static void promise66_aboutPowersOf2() {
        SecureLines x = with(64);
        int[] sizes = {1, 2, 3, 4, 5, 7, 8, 9, 31, 32, 33, 63, 64};
        for (int n : sizes) {
            for (int m : sizes) {
                byte[] due = m <= n ? sub(0, m, true, n) : new byte[0];
                if (m <= n) {
                    Check.due("consistency of " + m + " among " + n, x.consistency(0, m, n), due.length);
                    Check.out("it", x, due);
                }
            }
        }
    }

    /** "(0 ..) among n (1 .. 64)"; "BAD: i, n": THE TAPE stays. */
    static void promise67_refusals() {
        SecureLines x = new SecureLines();
        x.feed(2, 7);
        int[][] bad = {{-1, 5}, {5, 5}, {0, 0}, {0, 65}, {64, 65}, {64, 64}, {0, -1}, {0, Integer.MIN_VALUE}, {0, Integer.MAX_VALUE},
            {Integer.MIN_VALUE, 5}, {Integer.MAX_VALUE, 64}, {1, 1}};
        for (int[] call : bad) {
            Check.due("included" + Arrays.toString(call), x.included(1, call[0], call[1], 1), -1);
        }
        Check.due("THE TAPE stays", x.cut(2), 0);
        Check.due("among 64", x.included(1, 63, 64, 1), 0);
        Check.due("it took THE TAPE", x.cut(0), 0);
    }

    /** "1, 0": what INCLUSION is, and a byte fewer, more, a SECRET more, another entry, place, n, HEAD. */
    static void promise67_itAndOthers() {
        SecureLines x = new SecureLines();
        int[] sizes = {1, 2, 3, 4, 5, 33, 63, 64};
        for (int n : sizes) {
            int[] places = {0, n - 1};
            for (int i : places) {
                byte[] due = inclusion(0, i, n);
                long head = head(0, n);
                included(x, 1, due, entry(i), i, n, head);
                included(x, 0, Own.cat(due, new byte[1]), entry(i), i, n, head);
                included(x, 0, Own.cat(due, new byte[8]), entry(i), i, n, head);
                included(x, 0, due, entry(i) + 1, i, n, head);
                included(x, 0, due, entry(i), i, n, head + 1);
                if (n > 1) {
                    included(x, 0, Own.part(due, 0, due.length - 1), entry(i), i, n, head);
                    included(x, 0, Own.part(due, 0, due.length - 8), entry(i), i, n, head);
                    included(x, 0, new byte[0], entry(i), i, n, head);
                    included(x, 0, due, entry(i), i == 0 ? 1 : i - 1, n, head);
                }
                Own.feed(x, Own.rowOf(800, 1));
                Check.due("800 bytes", x.included(entry(i), i, n, head), 0);
            }
        }
    }

    private static void included(SecureLines x, int due, byte[] tape, long entry, int i, int n, long head) {
        Own.feed(x, tape);
        Check.due("included at " + i + " among " + n + " by " + tape.length, x.included(entry, i, n, head), due);
        Check.due("it took THE TAPE", x.cut(0), 0);
    }

    /** "(1 .. m .. n .. 64)"; "BAD: m, n": THE TAPE stays. */
    static void promise68_refusals() {
        SecureLines x = new SecureLines();
        x.feed(2, 7);
        int[][] bad = {{0, 5}, {6, 5}, {-1, 5}, {0, 0}, {1, 0}, {1, 65}, {65, 65}, {64, 65}, {1, -1}, {Integer.MIN_VALUE, 5},
            {Integer.MAX_VALUE, 64}, {1, Integer.MAX_VALUE}, {1, Integer.MIN_VALUE}};
        for (int[] call : bad) {
            Check.due("consistent" + Arrays.toString(call), x.consistent(call[0], call[1], 1, 1), -1);
        }
        Check.due("THE TAPE stays", x.cut(2), 0);
        Check.due("among 64", x.consistent(64, 64, 1, 1), 0);
        Check.due("it took THE TAPE", x.cut(0), 0);
        Check.due("of no bytes", x.consistent(64, 64, 1, 1), 1);
    }

    /** "1, 0": what CONSISTENCY is, and a byte fewer, more, a SECRET more, other HEADS. */
    static void promise68_itAndOthers() {
        SecureLines x = new SecureLines();
        int[] sizes = {1, 2, 3, 4, 5, 7, 8, 9, 32, 33, 63, 64};
        for (int n : sizes) {
            for (int m : sizes) {
                if (m <= n) {
                    byte[] due = sub(0, m, true, n);
                    long first = head(0, m);
                    long second = head(0, n);
                    consistent(x, 1, due, m, n, first, second);
                    consistent(x, 0, Own.cat(due, new byte[1]), m, n, first, second);
                    consistent(x, 0, Own.cat(due, new byte[8]), m, n, first, second);
                    consistent(x, 0, due, m, n, first + 1, second);
                    consistent(x, 0, due, m, n, first, second + 1);
                    if (due.length > 0) {
                        consistent(x, 0, Own.part(due, 0, due.length - 1), m, n, first, second);
                        consistent(x, 0, Own.part(due, 8, due.length), m, n, first, second);
                        consistent(x, 0, new byte[0], m, n, first, second);
                    }
                }
            }
        }
        Own.feed(x, Own.rowOf(800, 1));
        Check.due("800 bytes", x.consistent(3, 5, 1, 1), 0);
    }

    private static void consistent(SecureLines x, int due, byte[] tape, int m, int n, long first, long second) {
        Own.feed(x, tape);
        Check.due("consistent of " + m + " among " + n + " by " + tape.length, x.consistent(m, n, first, second), due);
        Check.due("it took THE TAPE", x.cut(0), 0);
    }
}
