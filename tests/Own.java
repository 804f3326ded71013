import java.io.ByteArrayOutputStream;
import java.math.BigInteger;
import java.util.ArrayList;
import java.util.List;

/** The document's functions and forms, written once more in another way, to compare with. */
final class Own {
    static final int[] GROUP_PRIMES = {0, 2147483647, 2147483629, 2147483587};
    static final int[] GROUP_BASES = {0, 7, 2, 2};
    static final int P = 2147483579;
    static final int Q = 1073741789;

    private Own() {
    }

    // ---- bytes

    static byte[] cat(byte[]... rows) {
        ByteArrayOutputStream got = new ByteArrayOutputStream();
        for (byte[] row : rows) {
            got.write(row, 0, row.length);
        }
        return got.toByteArray();
    }

    static byte[] bytes(int... values) {
        byte[] got = new byte[values.length];
        for (int i = 0; i < values.length; i++) {
            got[i] = (byte) values[i];
        }
        return got;
    }

    /** So many bytes of one value. */
    static byte[] rowOf(int n, int value) {
        byte[] got = new byte[n];
        java.util.Arrays.fill(got, (byte) value);
        return got;
    }

    static byte[] text(String signs) {
        byte[] got = new byte[signs.length()];
        for (int i = 0; i < got.length; i++) {
            got[i] = (byte) signs.charAt(i);
        }
        return got;
    }

    static byte[] two(int v) {
        return bytes(v >> 8, v);
    }

    static byte[] four(int v) {
        return bytes(v >> 24, v >> 16, v >> 8, v);
    }

    static byte[] secret(long v) {
        return cat(four((int) (v >> 32)), four((int) v));
    }

    static byte[] part(byte[] row, int from, int to) {
        byte[] got = new byte[to - from];
        System.arraycopy(row, from, got, 0, to - from);
        return got;
    }

    static long secretOf(byte[] row, int at) {
        long got = 0;
        for (int i = 0; i < 8; i++) {
            got = got << 8 | row[at + i] & 255;
        }
        return got;
    }

    static int fourOf(byte[] row, int at) {
        return (int) (secretOf(cat(new byte[4], part(row, at, at + 4)), 0));
    }

    // ---- functions

    static void mix(int[] s) {
        for (int i = 1; i <= 8; i++) {
            s[0] += s[1];
            s[3] = Integer.rotateLeft(s[3] ^ s[0], 16);
            s[2] += s[3];
            s[1] = Integer.rotateLeft(s[1] ^ s[2], 12);
            s[0] += s[1];
            s[3] = Integer.rotateLeft(s[3] ^ s[0], 8);
            s[2] += s[3];
            s[1] = Integer.rotateLeft(s[1] ^ s[2], 7);
            s[0] ^= i;
        }
    }

    static long out(int[] s) {
        return secretOf(cat(four(s[0] ^ s[2]), four(s[1] ^ s[3])), 0);
    }

    static long digest(int h, byte[]... rows) {
        byte[] t = cat(rows);
        byte[] padded = cat(t, bytes(128));
        while (padded.length % 8 != 0) {
            padded = cat(padded, bytes(0));
        }
        int[] s = {1 + h, 2 + h, 3 + h, 4 + h};
        for (int at = 0; at < padded.length; at += 8) {
            s[0] ^= fourOf(padded, at);
            s[1] ^= fourOf(padded, at + 4);
            mix(s);
        }
        s[2] ^= t.length;
        mix(s);
        return out(s);
    }

    private static byte[] xored(long k, int mask) {
        byte[] got = secret(k);
        for (int i = 0; i < 8; i++) {
            got[i] ^= (byte) mask;
        }
        return got;
    }

    static long keyed(int h, long k, byte[]... rows) {
        return digest(h, xored(k, 92), secret(digest(h, xored(k, 54), cat(rows))));
    }

    static long derived(int h, long k, int letter, long d) {
        return keyed(h, k, bytes(letter), secret(d));
    }

    static int hashOf(int suite) {
        return suite == 3 ? 1 : 0;
    }

    static int tagSize(int suite) {
        return suite == 2 ? 4 : 8;
    }

    private static byte[] streamed(long k, long m, byte[] text) {
        byte[] got = text.clone();
        for (int i = 0; i < got.length; i++) {
            int[] s = {(int) (k >> 32), (int) k, (int) m, i / 8};
            mix(s);
            got[i] ^= secret(out(s))[i % 8];
        }
        return got;
    }

    private static byte[] tag(int suite, long k, long m, byte[] data, byte[] sealed) {
        int h = hashOf(suite);
        long got = keyed(h, derived(h, k, 't', m), data, sealed, four(data.length));
        return part(secret(got), 0, tagSize(suite));
    }

    static byte[] seal(int suite, long k, long m, byte[] data, byte[] text) {
        byte[] sealed = streamed(k, m, text);
        return cat(sealed, tag(suite, k, m, data, sealed));
    }

    /** The text, or null. */
    static byte[] unseal(int suite, long k, long m, byte[] data, byte[] sealed) {
        int n = sealed.length - tagSize(suite);
        if (n < 0) {
            return null;
        }
        byte[] inside = part(sealed, 0, n);
        byte[] due = tag(suite, k, m, data, inside);
        return java.util.Arrays.equals(due, part(sealed, n, sealed.length)) ? streamed(k, m, inside) : null;
    }

    static int power(long base, long exponent, long p) {
        return BigInteger.valueOf(base).modPow(BigInteger.valueOf(exponent), BigInteger.valueOf(p)).intValueExact();
    }

    static int point(int group, int x) {
        return power(GROUP_BASES[group], x, GROUP_PRIMES[group]);
    }

    static long joint(int group, int x, int y) {
        int p = GROUP_PRIMES[group];
        if (y < 2 || y > p - 2) {
            return 0;
        }
        int got = power(y, x, p);
        return got < 2 || got > p - 2 ? 0 : got;
    }

    static int keyPoint(int x) {
        return power(4, x, P);
    }

    static long sign(int scheme, int x, byte[]... rows) {
        int h = scheme - 1;
        byte[] t = cat(rows);
        int u = (int) (keyed(h, x, t) >> 32) & Integer.MAX_VALUE;
        long k = 1 + u % (Q - 1);
        int r = power(4, k, P);
        int e = ((int) (digest(h, four(r), four(keyPoint(x)), t) >> 32) & Integer.MAX_VALUE) % Q;
        int s = (int) ((k + (long) e * x) % Q);
        return (long) e << 32 | s;
    }

    static boolean fits(int scheme, int y, long signature, byte[]... rows) {
        int e = (int) (signature >> 32);
        int s = (int) signature;
        if (y < 2 || y > P - 2 || power(y, Q, P) != 1 || e < 0 || s < 0 || e >= Q || s >= Q) {
            return false;
        }
        int r = (int) ((long) power(4, s, P) * power(y, Q - e, P) % P);
        return ((int) (digest(scheme - 1, four(r), four(y), cat(rows)) >> 32) & Integer.MAX_VALUE) % Q == e;
    }

    // ---- forms

    static byte[] node(int tag, byte[]... rows) {
        byte[] inside = cat(rows);
        int n = inside.length;
        byte[] length = n < 128 ? bytes(n) : n < 256 ? bytes(129, n) : cat(bytes(130), two(n));
        return cat(bytes(tag), length, inside);
    }

    static byte[] number(int v) {
        List<Integer> digits = new ArrayList<>();
        long rest = v;
        do {
            digits.add(0, (int) (rest & 255));
            rest >>= 8;
        } while (rest > 0);
        if (digits.get(0) > 127) {
            digits.add(0, 0);
        }
        return node(2, bytes(digits.stream().mapToInt(d -> d).toArray()));
    }

    static byte[] name(String signs) {
        return node(12, text(signs));
    }

    /** 48 { inner; 4 SIGNATURE }. */
    static byte[] signed(byte[] inner, int scheme, int x) {
        return node(48, inner, node(4, secret(sign(scheme, x, inner))));
    }

    // ---- the tape of an object

    static void feed(SecureLines x, byte[]... rows) {
        byte[] row = cat(rows);
        for (int at = 0; at < row.length; at += 8) {
            int n = Math.min(8, row.length - at);
            long w = 0;
            for (int i = 0; i < n; i++) {
                w = w << 8 | row[at + i] & 255;
            }
            if (x.feed(n, w) < 0) {
                throw new IllegalStateException("feed refused");
            }
        }
    }

    static byte[] out(SecureLines x) {
        byte[] got = new byte[x.out(-1)];
        for (int i = 0; i < got.length; i++) {
            got[i] = (byte) x.out(i);
        }
        return got;
    }

    static int tapeSize(SecureLines x) {
        int n = x.cut(0);
        return n;
    }

    static int hold(SecureLines x, byte[] certificate) {
        feed(x, certificate);
        return x.certificate();
    }
}
