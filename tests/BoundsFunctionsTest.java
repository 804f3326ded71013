import java.util.Arrays;

/** Promises 7 to 16 at their bounds: the functions. */
public final class BoundsFunctionsTest {
    private static final int[] NO_HASH = {-1, 2, 3, Integer.MIN_VALUE, Integer.MAX_VALUE};
    private static final int[] NO_SUITE = {0, 4, -1, Integer.MIN_VALUE, Integer.MAX_VALUE};
    private static final int[] NO_SCHEME = {0, 3, -1, Integer.MIN_VALUE, Integer.MAX_VALUE};
    private static final int[] NO_KEY = {0, -1, Own.Q, Own.Q + 1, Own.P, Integer.MIN_VALUE, Integer.MAX_VALUE};
    private static final long[] LONGS = {0, 1, -1, Long.MIN_VALUE, Long.MAX_VALUE, 1L << 31, 1L << 32, 0xffffffffL};

    public static void main(String[] args) throws ReflectiveOperationException {
        Bounds.run(BoundsFunctionsTest.class);
    }

    private static SecureLines with(byte[]... rows) {
        SecureLines x = new SecureLines();
        Own.feed(x, rows);
        return x;
    }

    // ---- 7 digest

    /** "DIGEST h (0, 1)": others are BAD, and THE TAPE stays. */
    static void promise07_hIs0Or1() {
        SecureLines x = with(Own.bytes(5, 6));
        for (int h : NO_HASH) {
            Check.due("digest(" + h + ")", x.digest(h), -1);
        }
        Check.due("digest(1)", x.digest(1), Own.digest(1, Own.bytes(5, 6)));
        Check.due("it took THE TAPE", x.cut(0), 0);
    }

    /** "Behind the bytes come 128 and as many 0s as make them divisible by 8": none up to seven, from 0 bytes to 800. */
    static void promise07_anyLength() {
        SecureLines x = new SecureLines();
        int[] lengths = {0, 1, 6, 7, 8, 9, 14, 15, 16, 17, 23, 24, 791, 792, 793, 799, 800};
        for (int n : lengths) {
            for (int h = 0; h <= 1; h++) {
                for (int value : new int[] {0, 128, 255}) {
                    Own.feed(x, Own.rowOf(n, value));
                    Check.due("digest of " + n, x.digest(h), Own.digest(h, Own.rowOf(n, value)));
                    Check.due("it took THE TAPE", x.cut(0), 0);
                }
            }
        }
    }

    /** A byte 128 or a 0 more behind the bytes makes another DIGEST: how many they are counts. */
    static void promise07_paddingIsNoByte() {
        SecureLines x = new SecureLines();
        long[] got = new long[4];
        byte[][] rows = {new byte[0], Own.bytes(128), Own.bytes(128, 0), Own.bytes(128, 0, 0, 0, 0, 0, 0, 0)};
        for (int i = 0; i < 4; i++) {
            Own.feed(x, rows[i]);
            got[i] = x.digest(0);
            for (int j = 0; j < i; j++) {
                Check.that("another one", got[i] != got[j]);
            }
        }
    }

    /** "MIX ..; all run over": ints that wrap around. */
    static void promise07_mixRunsOver() {
        SecureLines x = new SecureLines();
        for (long w : LONGS) {
            x.feed(8, w);
            Check.due("digest of " + w, x.digest(0), Own.digest(0, Own.secret(w)));
        }
    }

    // ---- 8 keyed

    /** "BAD": h; THE TAPE stays. */
    static void promise08_hIs0Or1() {
        SecureLines x = with(Own.bytes(5, 6));
        for (int h : NO_HASH) {
            Check.due("keyed(" + h + ")", x.keyed(h, 1), -1);
        }
        Check.due("keyed(1)", x.keyed(1, 1), Own.keyed(1, 1, Own.bytes(5, 6)));
        Check.due("it took THE TAPE", x.cut(0), 0);
    }

    /** A SECRET is any long; THE TAPE has 0 to 800 bytes. */
    static void promise08_anySecretAndLength() {
        SecureLines x = new SecureLines();
        int[] lengths = {0, 1, 7, 8, 800};
        for (long k : LONGS) {
            for (int n : lengths) {
                Own.feed(x, Own.rowOf(n, 200));
                Check.due("keyed by " + k, x.keyed(n & 1, k), Own.keyed(n & 1, k, Own.rowOf(n, 200)));
                Check.due("it took THE TAPE", x.cut(0), 0);
            }
        }
    }

    // ---- 9 derived

    /** "BAD: h, the letter not 0 .. 255." */
    static void promise09_hAndLetter() {
        SecureLines x = with(Own.bytes(5, 6));
        for (int h : NO_HASH) {
            Check.due("derived(" + h + ")", x.derived(h, 1, 1, 1), -1);
        }
        int[] bad = {-1, 256, Integer.MIN_VALUE, Integer.MAX_VALUE};
        for (int letter : bad) {
            Check.due("letter " + letter, x.derived(0, 1, letter, 1), -1);
        }
        int[] good = {0, 1, 127, 128, 254, 255};
        for (int letter : good) {
            Check.due("letter " + letter, x.derived(1, 5, letter, 7), Own.derived(1, 5, letter, 7));
        }
        Check.tape("it does not take THE TAPE", x, Own.bytes(5, 6));
    }

    /** Both SECRETS are any longs. */
    static void promise09_anySecrets() {
        SecureLines x = new SecureLines();
        for (long k : LONGS) {
            for (long d : LONGS) {
                Check.due("derived of " + k + ", " + d, x.derived(0, k, 'q', d), Own.derived(0, k, 'q', d));
            }
        }
    }

    // ---- 10 seal

    /** "BAD: no such SUITE, data beyond THE TAPE": THE TAPE and OUT stay. */
    static void promise10_suiteAndData() {
        SecureLines x = with(Own.bytes(5, 6, 7));
        for (int suite : NO_SUITE) {
            Check.due("suite " + suite, x.seal(suite, 1, 1, 0), -1);
        }
        int[] bad = {-1, 4, 800, Integer.MIN_VALUE, Integer.MAX_VALUE};
        for (int data : bad) {
            Check.due("data " + data, x.seal(1, 1, 1, data), -1);
        }
        Check.out("OUT stays", x);
        Check.due("THE TAPE stays", x.cut(3), 0);
        Check.due("data is all", x.seal(1, 1, 1, 3), 8);
        Check.out("a TAG alone", x, Own.seal(1, 1, 1, Own.bytes(5, 6, 7), new byte[0]));
        Check.due("it took THE TAPE", x.cut(0), 0);
        Check.due("data of an empty TAPE", x.seal(1, 1, 1, 1), -1);
    }

    /** TAGS of 8, 4, 8 bytes; nothing may be sealed, and 800 bytes. */
    static void promise10_fromNothingTo800() {
        SecureLines x = new SecureLines();
        for (int suite = 1; suite <= 3; suite++) {
            int[] lengths = {0, 1, 7, 8, 9, 16, 17, 800};
            for (int n : lengths) {
                int[] parts = {0, n / 2, n};
                for (int data : parts) {
                    byte[] row = Own.rowOf(n, 0);
                    Own.feed(x, row);
                    byte[] due = Own.seal(suite, -2, 3, Own.part(row, 0, data), Own.part(row, data, n));
                    Check.due("seal of " + n, x.seal(suite, -2, 3, data), n - data + Own.tagSize(suite));
                    Check.out("it", x, due);
                    Check.due("it took THE TAPE", x.cut(0), 0);
                }
            }
        }
    }

    /** "the FOURs .. of m (its lowest 32 bits)", but the TAG is by all of m. */
    static void promise10_numberRunsOver32Bits() {
        SecureLines x = new SecureLines();
        byte[] text = Own.rowOf(20, 9);
        Own.feed(x, text);
        x.seal(1, 77, 5, 0);
        byte[] low = Own.out(x);
        long[] numbers = {5 + (1L << 32), 5 + (1L << 63), 5 - (1L << 32)};
        for (long m : numbers) {
            Own.feed(x, text);
            x.seal(1, 77, m, 0);
            byte[] high = Own.out(x);
            Check.that("the same bytes", Arrays.equals(Own.part(low, 0, 20), Own.part(high, 0, 20)));
            Check.that("another TAG", !Arrays.equals(Own.part(low, 20, 28), Own.part(high, 20, 28)));
            Check.out("by " + m, x, Own.seal(1, 77, m, new byte[0], text));
        }
    }

    /** k and m are any longs. */
    static void promise10_anyKeyAndNumber() {
        SecureLines x = new SecureLines();
        for (long k : LONGS) {
            for (long m : LONGS) {
                x.feed(8, 1);
                x.seal(3, k, m, 2);
                Check.out("by " + k + ", " + m, x, Own.seal(3, k, m, new byte[2], Own.bytes(0, 0, 0, 0, 0, 1)));
            }
        }
    }

    // ---- 11 unseal

    /** "BAD likewise": THE TAPE and OUT stay. */
    static void promise11_suiteAndData() {
        SecureLines x = new SecureLines();
        x.seal(2, 1, 1, 0);
        byte[] out = Own.out(x);
        x.feed(3, 0x050607);
        for (int suite : NO_SUITE) {
            Check.due("suite " + suite, x.unseal(suite, 1, 1, 0), -1);
        }
        int[] bad = {-1, 4, 800, Integer.MIN_VALUE, Integer.MAX_VALUE};
        for (int data : bad) {
            Check.due("data " + data, x.unseal(1, 1, 1, data), -1);
        }
        Check.out("OUT stays", x, out);
        Check.tape("THE TAPE stays", x, Own.bytes(5, 6, 7));
    }

    /** "0: .. it is shorter than that" (a TAG): none of its bytes, or all but one; THE TAPE is taken, OUT stays. */
    static void promise11_shorterThanATag() {
        for (int suite = 1; suite <= 3; suite++) {
            SecureLines x = new SecureLines();
            x.seal(2, 9, 9, 0);
            byte[] out = Own.out(x);
            byte[] tag = Own.seal(suite, 1, 1, Own.bytes(4), new byte[0]);
            for (int n = 0; n < tag.length; n++) {
                Own.feed(x, Own.bytes(4), Own.part(tag, 0, n));
                Check.due(n + " bytes", x.unseal(suite, 1, 1, 1), 0);
                Check.due("it took THE TAPE", x.cut(0), 0);
            }
            Check.out("OUT stays", x, out);
            Own.feed(x, Own.bytes(4), tag);
            Check.due("all of them", x.unseal(suite, 1, 1, 1), 1);
        }
    }

    /** "1: it is so, the text (perhaps of no bytes) is OUT". */
    static void promise11_aTextOfNoBytes() {
        SecureLines x = new SecureLines();
        x.seal(1, 1, 1, 0);
        x.again();
        Check.due("unseal", x.unseal(1, 1, 1, 0), 1);
        Check.out("no bytes", x);
        Own.feed(x, Own.rowOf(792, 3), Own.seal(1, 1, 1, Own.rowOf(792, 3), new byte[0]));
        Check.due("behind data of 792", x.unseal(1, 1, 1, 792), 1);
        Check.out("no bytes", x);
        Own.feed(x, Own.seal(1, 1, 1, new byte[0], Own.rowOf(792, 3)));
        Check.due("of 800", x.unseal(1, 1, 1, 0), 1);
        Check.out("792 bytes", x, Own.rowOf(792, 3));
    }

    /** "0: its TAG is another one": by one bit of what was sealed, of data, of how long data is, of k, m, SUITE. */
    static void promise11_anotherTag() {
        SecureLines x = new SecureLines();
        byte[] data = Own.bytes(4, 5);
        byte[] sealed = Own.seal(1, 7, 8, data, Own.bytes(1, 2, 3));
        byte[] whole = Own.cat(data, sealed);
        for (int i = 0; i < 8 * whole.length; i++) {
            byte[] wrong = whole.clone();
            wrong[i / 8] ^= 1 << i % 8;
            Own.feed(x, wrong);
            Check.due("bit " + i, x.unseal(1, 7, 8, 2), 0);
        }
        int[][] calls = {{1, 7, 8, 1}, {1, 7, 8, 3}, {1, 7, 9, 2}, {1, 6, 8, 2}, {2, 7, 8, 2}, {3, 7, 8, 2}};
        for (int[] call : calls) {
            Own.feed(x, whole);
            Check.due(Arrays.toString(call), x.unseal(call[0], call[1], call[2], call[3]), 0);
        }
        Own.feed(x, whole);
        Check.due("by a number 2 to the 32 away", x.unseal(1, 7, 8 + (1L << 32), 2), 0);
        Own.feed(x, whole);
        Check.due("as it was sealed", x.unseal(1, 7, 8, 2), 1);
        Check.out("the text", x, Own.bytes(1, 2, 3));
    }

    // ---- 12, 13 groups

    /** "BAD: group, x below 0." */
    static void promise12_groupAndX() {
        SecureLines x = new SecureLines();
        int[] groups = {0, 4, -1, Integer.MIN_VALUE, Integer.MAX_VALUE};
        for (int group : groups) {
            Check.due("group " + group, x.point(group, 1), -1);
        }
        for (int group = 1; group <= 3; group++) {
            int p = Own.GROUP_PRIMES[group];
            Check.due("x -1", x.point(group, -1), -1);
            Check.due("x least", x.point(group, Integer.MIN_VALUE), -1);
            Check.due("x 0", x.point(group, 0), 1);
            Check.due("x 1", x.point(group, 1), Own.GROUP_BASES[group]);
            int[] good = {2, 31, p - 2, p - 1, p, Integer.MAX_VALUE - 1, Integer.MAX_VALUE};
            for (int one : good) {
                Check.due("x " + one, x.point(group, one), Own.point(group, one));
            }
        }
    }

    /** "BAD likewise". */
    static void promise13_groupAndX() {
        SecureLines x = new SecureLines();
        int[] groups = {0, 4, -1, Integer.MIN_VALUE, Integer.MAX_VALUE};
        for (int group : groups) {
            Check.due("group " + group, x.joint(group, 1, 5), -1);
        }
        for (int group = 1; group <= 3; group++) {
            Check.due("x -1", x.joint(group, -1, 5), -1);
            Check.due("x least, y 0", x.joint(group, Integer.MIN_VALUE, 0), -1);
            Check.due("x most", x.joint(group, Integer.MAX_VALUE, 5), Own.joint(group, Integer.MAX_VALUE, 5));
        }
    }

    /** "0 if y .. is not 2 .. p - 2"; "y may be any". */
    static void promise13_yIs2ToPMinus2() {
        SecureLines x = new SecureLines();
        for (int group = 1; group <= 3; group++) {
            int p = Own.GROUP_PRIMES[group];
            int[] none = {0, 1, p - 1, -1, -2, Integer.MIN_VALUE, Integer.MAX_VALUE == p ? -3 : Integer.MAX_VALUE};
            for (int y : none) {
                Check.due("y " + y, x.joint(group, 3, y), 0);
            }
            Check.due("y p", x.joint(group, 3, p), 0);
            Check.due("y 2", x.joint(group, 3, 2), 8);
            Check.due("y p - 2", x.joint(group, 3, p - 2), p - 8);
            Check.due("y p - 2, x 1", x.joint(group, 1, p - 2), p - 2);
            Check.due("y 2, x 1", x.joint(group, 1, 2), 2);
        }
    }

    /** "0 if .. that is not 2 .. p - 2": y to the x is 1 or p - 1. */
    static void promise13_thatIs2ToPMinus2() {
        SecureLines x = new SecureLines();
        for (int group = 1; group <= 3; group++) {
            int p = Own.GROUP_PRIMES[group];
            Check.due("to the 0 it is 1", x.joint(group, 0, 5), 0);
            Check.due("to the p - 1 it is 1", x.joint(group, p - 1, 5), 0);
            Check.due("to the half of that it is 1 or p - 1", x.joint(group, (p - 1) / 2, 5), 0);
            Check.due("of its square 1", x.joint(group, (p - 1) / 2, 25), 0);
            int[] ys = {3, 5, 6, 7, 10, 11};
            int minus = 0;
            for (int y : ys) {
                minus += Own.power(y, (p - 1) / 2, p) == p - 1 ? 1 : 0;
                Check.due("half of that, y " + y, x.joint(group, (p - 1) / 2, y), 0);
            }
            Check.that("p - 1 was among them", minus > 0);
        }
    }

    // ---- 14 to 16 schemes

    /** "BAD: x is not 1 .. q - 1." */
    static void promise14_xIs1ToQMinus1() {
        SecureLines x = new SecureLines();
        for (int key : NO_KEY) {
            Check.due("keyPoint(" + key + ")", x.keyPoint(key), -1);
        }
        int[] good = {1, 2, Own.Q - 2, Own.Q - 1};
        for (int key : good) {
            Check.due("keyPoint(" + key + ")", x.keyPoint(key), Own.keyPoint(key));
        }
    }

    /** "BAD": scheme, KEY; THE TAPE stays. */
    static void promise15_schemeAndKey() {
        SecureLines x = with(Own.bytes(5, 6));
        for (int scheme : NO_SCHEME) {
            Check.due("scheme " + scheme, x.sign(scheme, 1), -1);
        }
        for (int key : NO_KEY) {
            Check.due("key " + key, x.sign(1, key), -1);
        }
        Check.due("key q - 1", x.sign(2, Own.Q - 1), Own.sign(2, Own.Q - 1, Own.bytes(5, 6)));
        Check.due("it took THE TAPE", x.cut(0), 0);
    }

    /** The greatest and the least KEY, of no bytes and of 800: the SIGNATURE FITS. */
    static void promise15_fromNothingTo800() {
        SecureLines x = new SecureLines();
        int[] keys = {1, 2, Own.Q - 1};
        int[] lengths = {0, 1, 8, 800};
        for (int key : keys) {
            for (int n : lengths) {
                for (int scheme = 1; scheme <= 2; scheme++) {
                    byte[] t = Own.rowOf(n, 250);
                    Own.feed(x, t);
                    long got = x.sign(scheme, key);
                    Check.due("sign", got, Own.sign(scheme, key, t));
                    Own.feed(x, t);
                    Check.due("it FITS", x.fits(scheme, Own.keyPoint(key), got), 1);
                }
            }
        }
    }

    /** "BAD: scheme" alone; THE TAPE stays. */
    static void promise16_scheme() {
        SecureLines x = with(Own.bytes(5, 6));
        for (int scheme : NO_SCHEME) {
            Check.due("scheme " + scheme, x.fits(scheme, 4, 1), -1);
        }
        Check.due("THE TAPE stays", x.cut(2), 0);
        Check.due("any y and SIGNATURE", x.fits(1, Integer.MIN_VALUE, Long.MIN_VALUE), 0);
        Check.due("it took THE TAPE", x.cut(0), 0);
    }

    /** "when y is 2 .. p - 2". */
    static void promise16_yIs2ToPMinus2() {
        SecureLines x = new SecureLines();
        int[] none = {0, 1, -1, Own.P - 1, Own.P, Own.P + 1, Integer.MIN_VALUE, Integer.MAX_VALUE};
        for (int y : none) {
            // with y being 1 or p - 1 that could fit: r is 4 to the s, and e its own
            for (int s = 1; s < 40; s++) {
                int r = Own.power(4, s, Own.P);
                int e = ((int) (Own.digest(0, Own.four(r), Own.four(y)) >> 32) & Integer.MAX_VALUE) % Own.Q;
                Check.due("y " + y, x.fits(1, y, (long) e << 32 | s), 0);
            }
        }
    }

    /** The greatest y, p - 2, is the POINT of a KEY: its SIGNATURE FITS. */
    static void promise16_yIsPMinus2() {
        SecureLines x = new SecureLines();
        int key = 536870895;
        Check.due("its POINT", x.keyPoint(key), Own.P - 2);
        for (int n = 0; n < 20; n++) {
            Own.feed(x, Own.rowOf(n, 3));
            long signature = x.sign(1, key);
            Own.feed(x, Own.rowOf(n, 3));
            Check.due("it FITS", x.fits(1, Own.P - 2, signature), 1);
        }
    }

    /** "and y to the q is 1 modulo p": another y does not fit, though all else is so. */
    static void promise16_yToTheQIs1() {
        SecureLines x = new SecureLines();
        int found = 0;
        for (int k = 1; k < 60; k++) {
            int key = 1000 + k;
            int y = Own.P - Own.keyPoint(key);
            int r = Own.power(4, k, Own.P);
            int e = ((int) (Own.digest(0, Own.four(r), Own.four(y)) >> 32) & Integer.MAX_VALUE) % Own.Q;
            int s = (int) ((k + (long) e * key) % Own.Q);
            // with an even exponent the sign goes, and r comes again
            if ((Own.Q - e) % 2 == 0) {
                found++;
                long got = (long) Own.power(4, s, Own.P) * Own.power(y, Own.Q - e, Own.P) % Own.P;
                Check.due("r comes again", got, r);
                Check.due("y to the q is p - 1", x.fits(1, y, (long) e << 32 | s), 0);
            }
        }
        Check.that("some were looked at", found > 10);
    }

    /** "e and s are 0 .. q - 1". */
    static void promise16_eAndSAre0ToQMinus1() {
        SecureLines x = new SecureLines();
        byte[] t = Own.bytes(3);
        int over = 0;
        for (int key = 1; key < 200; key++) {
            long good = Own.sign(1, key, t);
            int e = (int) (good >>> 32);
            int s = (int) good;
            int[][] others = {{e, s - Own.Q}, {e - Own.Q, s}, {e + Own.Q, s}, {e, s + Own.Q}};
            for (int[] other : others) {
                Own.feed(x, t);
                long signature = (long) other[0] << 32 | other[1] & 0xffffffffL;
                Check.due("e, s beyond", x.fits(1, Own.keyPoint(key), signature), 0);
                over++;
            }
        }
        Check.that("some were looked at", over > 0);
        // SIGNATURES of no bytes that were looked for long: e is 0, q - 1, s is 0, q - 1
        int[][] least = {{5, 0, 136663354}, {6, Own.Q - 1, 669403594}, {7, 442698407, 0}, {5, 59268508, Own.Q - 1}};
        for (int[] one : least) {
            long signature = (long) one[1] << 32 | one[2];
            Check.due("e " + one[1] + ", s " + one[2], x.fits(1, Own.keyPoint(one[0]), signature), 1);
            Check.due("e " + one[1] + ", s " + one[2] + " of another KEY", x.fits(1, Own.keyPoint(one[0] + 3), signature), 0);
        }
        Check.due("e q", x.fits(1, 4, (long) Own.Q << 32), 0);
        Check.due("s q", x.fits(1, 4, Own.Q), 0);
    }

    /** "modulo q": the first FOUR without its highest bit is above q, and e is less. */
    static void promise16_eRunsOverQ() {
        SecureLines x = new SecureLines();
        int above = 0;
        for (int key = 1; key < 60; key++) {
            byte[] t = Own.bytes(key);
            Own.feed(x, t);
            long got = x.sign(2, key);
            int k = 1 + ((int) (Own.keyed(1, key, t) >> 32) & Integer.MAX_VALUE) % (Own.Q - 1);
            int four = (int) (Own.digest(1, Own.four(Own.power(4, k, Own.P)), Own.four(Own.keyPoint(key)), t) >> 32);
            above += (four & Integer.MAX_VALUE) >= Own.Q ? 1 : 0;
            Check.due("e", got >>> 32, (four & Integer.MAX_VALUE) % Own.Q);
            Own.feed(x, t);
            Check.due("it FITS", x.fits(2, Own.keyPoint(key), got), 1);
        }
        Check.that("some ran over", above > 10);
    }
}
