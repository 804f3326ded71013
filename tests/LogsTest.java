import java.util.Arrays;

/** Promises 62 to 68: logs, against trees that are built by the words of the document. */
public final class LogsTest {
    public static void main(String[] args) {
        refusals();
        heads();
        proofs();
        wrongProofs();
        Check.end("LogsTest");
    }

    private static long entry(int i) {
        return i * 0x123456789abcdefL;
    }

    private static long leaf(int i) {
        return Own.digest(0, Own.bytes(0), Own.secret(entry(i)));
    }

    private static int half(int n) {
        int k = 1;
        while (2 * k < n) {
            k *= 2;
        }
        return k;
    }

    private static long head(int from, int n) {
        if (n == 0) {
            return Own.digest(0);
        }
        if (n == 1) {
            return leaf(from);
        }
        int k = half(n);
        return Own.digest(0, Own.bytes(1), Own.secret(head(from, k)), Own.secret(head(from + k, n - k)));
    }

    private static byte[] inclusion(int from, int i, int n) {
        if (n == 1) {
            return new byte[0];
        }
        int k = half(n);
        return i < k ? Own.cat(inclusion(from, i, k), Own.secret(head(from + k, n - k)))
            : Own.cat(inclusion(from + k, i - k, n - k), Own.secret(head(from, k)));
    }

    private static byte[] sub(int from, int m, boolean whole, int n) {
        if (n == m) {
            return whole ? new byte[0] : Own.secret(head(from, n));
        }
        int k = half(n);
        return m <= k ? Own.cat(sub(from, m, whole, k), Own.secret(head(from + k, n - k)))
            : Own.cat(sub(from + k, m - k, false, n - k), Own.secret(head(from, k)));
    }

    private static SecureLines with(int n) {
        SecureLines x = new SecureLines();
        x.log();
        for (int i = 0; i < n; i++) {
            Check.due("add", x.add(0, entry(i)), i + 1);
        }
        return x;
    }

    private static void refusals() {
        SecureLines x = new SecureLines();
        Check.due("no log", x.add(0, 1), -1);
        Check.due("no log", x.head(0, 0), -1);
        for (int i = 0; i < 4; i++) {
            Check.due("log", x.log(), i);
        }
        Check.due("the fifth", x.log(), -3);
        Check.due("log 4", x.add(4, 1), -1);
        Check.due("log -1", x.add(-1, 1), -1);
        Check.due("head of log 4", x.head(4, 0), -1);
        Check.due("head n -1", x.head(0, -1), -1);
        Check.due("head n 1", x.head(0, 1), -1);
        Check.due("head of none", x.head(0, 0), Own.digest(0));
        for (int i = 0; i < 64; i++) {
            x.add(1, i);
        }
        Check.due("the 65th", x.add(1, 1), -3);
        Check.due("of another log", x.add(2, 1), 1);
        int[][] inclusions = {{4, 0, 1}, {-1, 0, 1}, {1, -1, 5}, {1, 5, 5}, {1, 0, 65}, {1, 0, 0}, {1, 0, -1}, {0, 0, 1}};
        for (int[] call : inclusions) {
            Check.due("inclusion " + Arrays.toString(call), x.inclusion(call[0], call[1], call[2]), -1);
        }
        int[][] consistencies = {{4, 1, 1}, {-1, 1, 1}, {1, 0, 5}, {1, -1, 5}, {1, 6, 5}, {1, 1, 65}, {1, 0, 0}, {0, 1, 1}};
        for (int[] call : consistencies) {
            Check.due("consistency " + Arrays.toString(call), x.consistency(call[0], call[1], call[2]), -1);
        }
        x.feed(1, 1);
        int[][] included = {{-1, 5}, {5, 5}, {0, 0}, {0, 65}, {0, -3}, {64, 64}};
        for (int[] call : included) {
            Check.due("included " + Arrays.toString(call), x.included(1, call[0], call[1], 1), -1);
        }
        int[][] consistent = {{0, 5}, {6, 5}, {1, 65}, {0, 0}, {-1, 5}, {65, 65}};
        for (int[] call : consistent) {
            Check.due("consistent " + Arrays.toString(call), x.consistent(call[0], call[1], 1, 1), -1);
        }
        Check.due("not taken", x.cut(0), 1);
        Check.due("inclusion of one", x.inclusion(1, 0, 1), 0);
        Check.due("OUT is empty", x.out(-1), 0);
    }

    private static void heads() {
        SecureLines x = with(64);
        for (int n = 0; n <= 64; n++) {
            Check.due("head of " + n, x.head(0, n), head(0, n));
        }
        Check.due("head of 65", x.head(0, 65), -1);
    }

    private static void proofs() {
        SecureLines x = with(64);
        int[] counts = {1, 2, 3, 4, 5, 7, 8, 9, 13, 16, 31, 33, 63, 64};
        for (int n : counts) {
            for (int i = 0; i < n; i += n > 20 ? 5 : 1) {
                byte[] due = inclusion(0, i, n);
                Check.due("inclusion of " + i + " among " + n, x.inclusion(0, i, n), due.length);
                Check.that("its bytes", Arrays.equals(Own.out(x), due));
                x.again();
                Check.due("included", x.included(entry(i), i, n, head(0, n)), 1);
                Check.due("taken", x.cut(0), 0);
            }
            for (int m = 1; m <= n; m += n > 20 ? 3 : 1) {
                byte[] due = sub(0, m, true, n);
                Check.due("consistency of " + m + " among " + n, x.consistency(0, m, n), due.length);
                Check.that("its bytes", Arrays.equals(Own.out(x), due));
                x.again();
                Check.due("consistent", x.consistent(m, n, head(0, m), head(0, n)), 1);
                Check.due("taken", x.cut(0), 0);
            }
        }
    }

    private static int included(SecureLines x, byte[] proof, long entry, int i, int n, long head) {
        Own.feed(x, proof);
        int got = x.included(entry, i, n, head);
        Check.due("taken", x.cut(0), 0);
        return got;
    }

    private static int consistent(SecureLines x, byte[] proof, int m, int n, long first, long second) {
        Own.feed(x, proof);
        int got = x.consistent(m, n, first, second);
        Check.due("taken", x.cut(0), 0);
        return got;
    }

    private static void wrongProofs() {
        SecureLines x = new SecureLines();
        int n = 13;
        long head = head(0, n);
        for (int i = 0; i < n; i++) {
            byte[] good = inclusion(0, i, n);
            Check.due("right", included(x, good, entry(i), i, n, head), 1);
            Check.due("another entry", included(x, good, entry(i) + 1, i, n, head), 0);
            Check.due("another head", included(x, good, entry(i), i, n, head ^ 1), 0);
            Check.due("a byte more", included(x, Own.cat(good, new byte[1]), entry(i), i, n, head), 0);
            Check.due("a SECRET more", included(x, Own.cat(good, new byte[8]), entry(i), i, n, head), 0);
            Check.due("a byte fewer", included(x, Own.part(good, 0, good.length - 1), entry(i), i, n, head), 0);
            Check.due("another place", included(x, good, entry(i), (i + 1) % n, n, head), 0);
            for (int at = 0; at < good.length; at += 5) {
                byte[] wrong = good.clone();
                wrong[at] ^= 4;
                Check.due("another byte", included(x, wrong, entry(i), i, n, head), 0);
            }
        }
        Check.due("one of one", included(x, new byte[0], entry(0), 0, 1, leaf(0)), 1);
        Check.due("one of one, another", included(x, new byte[0], entry(1), 0, 1, leaf(0)), 0);
        Check.due("one of one, bytes", included(x, new byte[8], entry(0), 0, 1, leaf(0)), 0);
        for (int m = 1; m <= n; m++) {
            byte[] good = sub(0, m, true, n);
            long first = head(0, m);
            Check.due("right", consistent(x, good, m, n, first, head), 1);
            Check.due("another first", consistent(x, good, m, n, first ^ 1, head), 0);
            Check.due("another second", consistent(x, good, m, n, first, head ^ 1), 0);
            Check.due("a byte more", consistent(x, Own.cat(good, new byte[1]), m, n, first, head), 0);
            Check.due("a SECRET more", consistent(x, Own.cat(good, new byte[8]), m, n, first, head), 0);
            if (good.length > 0) {
                Check.due("a SECRET fewer", consistent(x, Own.part(good, 8, good.length), m, n, first, head), 0);
                Check.due("nothing", consistent(x, new byte[0], m, n, first, head), 0);
            }
            for (int at = 0; at < good.length; at += 7) {
                byte[] wrong = good.clone();
                wrong[at] ^= 1;
                Check.due("another byte", consistent(x, wrong, m, n, first, head), 0);
            }
        }
        Check.due("both alike", consistent(x, new byte[0], 64, 64, 5, 5), 1);
        Check.due("both not alike", consistent(x, new byte[0], 64, 64, 5, 6), 0);
    }
}
