import java.util.Random;

/** Promises 7 to 16: the functions, against the same ones written in another way. */
public final class FunctionsTest {
    public static void main(String[] args) {
        digests();
        seals();
        groups();
        schemes();
        Check.end("FunctionsTest");
    }

    private static byte[] row(Random random, int n) {
        byte[] got = new byte[n];
        random.nextBytes(got);
        return got;
    }

    private static void digests() {
        Random random = new Random(1);
        SecureLines x = new SecureLines();
        Check.due("digest of nothing", x.digest(0), Own.digest(0));
        Check.due("digest 1 of nothing", x.digest(1), Own.digest(1));
        for (int n = 0; n < 40; n++) {
            byte[] t = row(random, n);
            int h = n & 1;
            long k = random.nextLong();
            Own.feed(x, t);
            Check.due("digest of " + n, x.digest(h), Own.digest(h, t));
            Check.due("digest took", x.cut(0), 0);
            Own.feed(x, t);
            Check.due("keyed of " + n, x.keyed(h, k), Own.keyed(h, k, t));
            Check.due("keyed took", x.cut(0), 0);
            Check.due("derived", x.derived(h, k, n * 6, random.nextInt()), Own.derived(h, k, n * 6, lastInt(1, n)));
        }
        Own.feed(x, row(random, 800));
        x.cut(0);
        x.feed(2, 5);
        Check.due("digest(2)", x.digest(2), -1);
        Check.due("digest(-1)", x.digest(-1), -1);
        Check.due("keyed(2)", x.keyed(2, 1), -1);
        Check.due("not taken", x.cut(0), 2);
        Check.due("derived(2)", x.derived(2, 1, 'a', 1), -1);
        Check.due("derived letter -1", x.derived(0, 1, -1, 1), -1);
        Check.due("derived letter 256", x.derived(0, 1, 256, 1), -1);
        Check.due("derived letter 255", x.derived(1, -1, 255, -1), Own.derived(1, -1, 255, -1));
        Check.due("derived letter 0", x.derived(0, 1, 0, 0), Own.derived(0, 1, 0, 0));
    }

    /** The int that the same draws give again. */
    private static int lastInt(long seed, int upTo) {
        Random random = new Random(seed);
        int got = 0;
        for (int n = 0; n <= upTo; n++) {
            row(random, n);
            random.nextLong();
            got = random.nextInt();
        }
        return got;
    }

    private static void seals() {
        Random random = new Random(2);
        SecureLines x = new SecureLines();
        for (int i = 0; i < 60; i++) {
            int suite = 1 + i % 3;
            byte[] data = row(random, random.nextInt(12));
            byte[] t = row(random, i % 4 == 0 ? 0 : random.nextInt(40));
            long k = random.nextLong();
            long m = random.nextLong();
            byte[] due = Own.seal(suite, k, m, data, t);
            Own.feed(x, data, t);
            Check.due("seal", x.seal(suite, k, m, data.length), due.length);
            Check.due("seal took", x.cut(0), 0);
            byte[] got = Own.out(x);
            Check.that("SEALED is as due", java.util.Arrays.equals(got, due));
            Own.feed(x, data, due);
            Check.due("unseal", x.unseal(suite, k, m, data.length), 1);
            Check.that("the text is as due", java.util.Arrays.equals(Own.out(x), t));
            Check.due("unseal took", x.cut(0), 0);
            byte[] wrong = due.clone();
            wrong[random.nextInt(wrong.length)] ^= 1 << random.nextInt(8);
            Own.feed(x, data, wrong);
            x.again();
            x.cut(data.length + wrong.length);
            int outWas = x.out(-1);
            Check.due("unseal of another", x.unseal(suite, k, m, data.length), 0);
            Check.due("OUT stays", x.out(-1), outWas);
            Check.due("unseal took", x.cut(0), 0);
            Own.feed(x, data, due);
            Check.due("unseal by another number", x.unseal(suite, k, m ^ 1L << 40, data.length), 0);
        }
        x.feed(3, 1);
        Check.due("unseal of 3 bytes", x.unseal(2, 1, 1, 0), 0);
        Check.due("unseal took", x.cut(0), 0);
        x.feed(4, 1);
        Check.due("unseal of data alone", x.unseal(2, 1, 1, 4), 0);
        x.feed(4, 1);
        Check.due("suite 0", x.seal(0, 1, 1, 0), -1);
        Check.due("suite 4", x.seal(4, 1, 1, 0), -1);
        Check.due("data beyond", x.seal(1, 1, 1, 5), -1);
        Check.due("data below", x.seal(1, 1, 1, -1), -1);
        Check.due("unseal suite 0", x.unseal(0, 1, 1, 0), -1);
        Check.due("unseal suite 4", x.unseal(4, 1, 1, 0), -1);
        Check.due("unseal data beyond", x.unseal(1, 1, 1, 5), -1);
        Check.due("unseal data below", x.unseal(1, 1, 1, -1), -1);
        Check.due("not taken", x.cut(0), 4);
        Own.feed(x, row(random, 800));
        Check.due("seal of all", x.seal(1, 1, 1, 0), 808);
        Check.due("again of 808", x.again(), -3);
        Own.feed(x, row(random, 800));
        Check.due("seal of data alone", x.seal(2, 1, 1, 800), 4);
    }

    private static void groups() {
        Random random = new Random(3);
        SecureLines x = new SecureLines();
        for (int i = 0; i < 60; i++) {
            int group = 1 + i % 3;
            int a = random.nextInt() & Integer.MAX_VALUE;
            int b = random.nextInt() & Integer.MAX_VALUE;
            Check.due("point", x.point(group, a), Own.point(group, a));
            Check.due("joint", x.joint(group, a, Own.point(group, b)), Own.joint(group, a, Own.point(group, b)));
            Check.due("both joints", x.joint(group, b, Own.point(group, a)), Own.joint(group, a, Own.point(group, b)));
        }
        for (int group = 1; group <= 3; group++) {
            int p = Own.GROUP_PRIMES[group];
            Check.due("point 0", x.point(group, 0), 1);
            Check.due("point 1", x.point(group, 1), Own.GROUP_BASES[group]);
            Check.due("point most", x.point(group, Integer.MAX_VALUE), Own.point(group, Integer.MAX_VALUE));
            int[] ys = {0, 1, 2, -1, p - 1, p - 2, Integer.MAX_VALUE, Integer.MIN_VALUE};
            for (int y : ys) {
                Check.due("joint of " + y, x.joint(group, 12345, y), Own.joint(group, 12345, y));
                Check.due("joint by 0 of " + y, x.joint(group, 0, y), 0);
                Check.due("joint by 1 of " + y, x.joint(group, 1, y), Own.joint(group, 1, y));
                Check.due("joint by half of " + y, x.joint(group, (p - 1) / 2, y), 0);
            }
        }
        Check.due("group 0", x.point(0, 1), -1);
        Check.due("group 4", x.point(4, 1), -1);
        Check.due("x below", x.point(1, -1), -1);
        Check.due("joint group 0", x.joint(0, 1, 5), -1);
        Check.due("joint group 4", x.joint(4, 1, 5), -1);
        Check.due("joint x below", x.joint(1, -1, 5), -1);
    }

    private static void schemes() {
        Random random = new Random(4);
        SecureLines x = new SecureLines();
        Check.due("keyPoint(0)", x.keyPoint(0), -1);
        Check.due("keyPoint(-1)", x.keyPoint(-1), -1);
        Check.due("keyPoint(q)", x.keyPoint(Own.Q), -1);
        Check.due("keyPoint(q - 1)", x.keyPoint(Own.Q - 1), Own.keyPoint(Own.Q - 1));
        Check.due("keyPoint(1)", x.keyPoint(1), 4);
        for (int i = 0; i < 40; i++) {
            int scheme = 1 + i % 2;
            int key = 1 + random.nextInt(Own.Q - 1);
            byte[] t = row(random, random.nextInt(30));
            int y = Own.keyPoint(key);
            long due = Own.sign(scheme, key, t);
            Check.due("keyPoint", x.keyPoint(key), y);
            Own.feed(x, t);
            Check.due("sign", x.sign(scheme, key), due);
            Check.due("sign took", x.cut(0), 0);
            long[] signatures = {due, due ^ 1, due ^ 1L << 32, due | 1L << 63, due | 1L << 31, due + Own.Q, 0,
                due + ((long) Own.Q << 32)};
            for (long signature : signatures) {
                Own.feed(x, t);
                Check.due("fits", x.fits(scheme, y, signature), Own.fits(scheme, y, signature, t) ? 1 : 0);
                Check.due("fits took", x.cut(0), 0);
            }
            Own.feed(x, t);
            Check.due("fits", x.fits(scheme, y, due), 1);
            Own.feed(x, t);
            Check.due("of the other scheme", x.fits(3 - scheme, y, due), 0);
            Own.feed(x, t, Own.bytes(1));
            Check.due("of other bytes", x.fits(scheme, y, due), 0);
            int[] points = {0, 1, 2, Own.P - 1, Own.P - 2, Own.P - y, -5, Integer.MAX_VALUE, 4};
            for (int point : points) {
                Own.feed(x, t);
                Check.due("of point " + point, x.fits(scheme, point, due), Own.fits(scheme, point, due, t) ? 1 : 0);
            }
        }
        x.feed(2, 7);
        Check.due("scheme 0", x.sign(0, 1), -1);
        Check.due("scheme 3", x.sign(3, 1), -1);
        Check.due("key 0", x.sign(1, 0), -1);
        Check.due("key q", x.sign(1, Own.Q), -1);
        Check.due("fits scheme 0", x.fits(0, 4, 1), -1);
        Check.due("fits scheme 3", x.fits(3, 4, 1), -1);
        Check.due("not taken", x.cut(0), 2);
    }
}
