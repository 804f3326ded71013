import java.util.Arrays;

/** Promises 24 to 28 at their bounds: THE ROW, PATHS, what was REVOKED. */
public final class BoundsPathsTest {
    private static final int ROOT = 11;
    private static final int MID = 12;
    private static final int LEAF = 13;
    private static final int[] NONE_SUCH = {-1, 30, Integer.MIN_VALUE, Integer.MAX_VALUE};

    public static void main(String[] args) throws ReflectiveOperationException {
        Bounds.run(BoundsPathsTest.class);
    }

    private static Cert root() {
        return new Cert("root", "root", ROOT).serial(1).office();
    }

    private static Cert mid() {
        return new Cert("mid", "root", MID).serial(2).office();
    }

    private static Cert leaf() {
        return new Cert("leaf", "mid", LEAF).serial(3).names("a.b.c");
    }

    /** An object with a client 0 that trusts certificate 0. */
    private static SecureLines with(byte[]... certificates) {
        SecureLines x = new SecureLines();
        x.end(0);
        for (int i = 0; i < certificates.length; i++) {
            Check.due("held", Own.hold(x, certificates[i]), i);
        }
        x.trust(0, 0);
        return x;
    }

    private static SecureLines three() {
        return with(root().by(ROOT), mid().by(ROOT), leaf().by(MID));
    }

    private static SecureLines three(Cert root, Cert mid, Cert leaf) {
        return with(root.by(ROOT), mid.by(ROOT), leaf.by(MID));
    }

    /** An ANCHOR n0 and so many below it, each the issuer of the next; their numbers are their places. */
    private static SecureLines line(int n, int depthAt, int depth) {
        byte[][] row = new byte[n][];
        for (int i = 0; i < n; i++) {
            Cert cert = new Cert("n" + i, i == 0 ? "n0" : "n" + (i - 1), 20 + i).serial(i + 1).office();
            row[i] = (i == depthAt ? cert.depth(depth) : cert).by(i == 0 ? 20 : 19 + i);
        }
        return with(row);
    }

    private static int judge(SecureLines x, int time, int use, int... row) {
        for (int c : row) {
            x.row(c);
        }
        int got = x.judge(0, time, use);
        Check.due("THE ROW is empty then", x.step(-1), 0);
        return got;
    }

    private static int judgeLine(SecureLines x, int n) {
        int[] row = new int[n];
        for (int i = 0; i < n; i++) {
            row[i] = n - 1 - i;
        }
        return judge(x, 5, 0, row);
    }

    // ---- 24 row

    /** "THE ROW (6 at most; perhaps one that it has)"; "BAD, FULL". */
    static void promise24_sixAtMost() {
        SecureLines x = three();
        for (int i = 1; i <= 6; i++) {
            Check.due("row(1)", x.row(1), i);
        }
        Check.due("the seventh", x.row(1), -3);
        Check.due("another one", x.row(2), -3);
        Check.due("THE ROW stays", x.step(-1), 6);
        Check.due("BAD ahead of FULL", x.row(3), -1);
    }

    /** "BAD": no such CERTIFICATE. */
    static void promise24_noSuchCertificate() {
        SecureLines x = three();
        for (int c : NONE_SUCH) {
            Check.due("row(" + c + ")", x.row(c), -1);
        }
        Check.due("row(3)", x.row(3), -1);
        Check.due("THE ROW stays", x.step(-1), 0);
        Check.due("the last", x.row(2), 1);
    }

    // ---- 25 judge

    /** "BAD: end, use, an empty ROW": THE ROW stays. */
    static void promise25_refusals() {
        SecureLines x = three();
        Check.due("an empty ROW", x.judge(0, 5, 0), -1);
        x.row(2);
        x.row(1);
        x.row(0);
        int[] ends = {1, -1, 8, Integer.MIN_VALUE, Integer.MAX_VALUE};
        for (int e : ends) {
            Check.due("end " + e, x.judge(e, 5, 0), -1);
        }
        int[] uses = {-1, 3, 4, Integer.MIN_VALUE, Integer.MAX_VALUE};
        for (int use : uses) {
            Check.due("use " + use, x.judge(0, 5, use), -1);
        }
        Check.due("THE ROW stays", x.step(-1), 3);
        Check.due("as it was", x.step(0) * 100 + x.step(1) * 10 + x.step(2), 210);
        Check.due("judge", x.judge(0, 5, 2), 0);
        Check.due("an empty ROW then", x.judge(0, 5, 2), -1);
    }

    /** "c0 .., .., ck (k up to 5)". */
    static void promise25_kUpTo5() {
        for (int n = 1; n <= 6; n++) {
            Check.due("of " + n, judgeLine(line(n, -1, 0), n), 0);
        }
    }

    /** "all different". */
    static void promise25_allDifferent() {
        byte[] self = new Cert("root", "root", 14).serial(9).office().by(ROOT);
        SecureLines x = with(root().by(ROOT), self);
        Check.due("two of one name", judge(x, 5, 0, 1, 0), 0);
        Check.due("one twice ahead", judge(x, 5, 0, 1, 1, 0), -5);
        Check.due("the ANCHOR twice", judge(x, 5, 0, 0, 0), -5);
        Check.due("apart", judge(x, 5, 0, 0, 1, 0), -5);
    }

    /** "ck an ANCHOR"; "of each i below k ISSUER is SUBJECT of the next". */
    static void promise25_noPath() {
        SecureLines x = three();
        Check.due("a PATH", judge(x, 5, 0, 2, 1, 0), 0);
        Check.due("the last is no ANCHOR", judge(x, 5, 0, 2, 1), -5);
        Check.due("one that is no ANCHOR", judge(x, 5, 0, 2), -5);
        Check.due("one lacks", judge(x, 5, 0, 2, 0), -5);
        Check.due("the other way", judge(x, 5, 0, 0, 1, 2), -5);
        Check.due("-5 ahead of WHYS", judge(x, -1, 0, 2, 0), -5);
        SecureLines none = with(mid().by(ROOT), root().by(ROOT), leaf().by(MID));
        Check.due("an ANCHOR that is not last", judge(none, 5, 0, 2, 0, 1), -5);
        Check.due("an ANCHOR that is no root", judge(none, 5, 0, 2, 0), 0);
        SecureLines y = three();
        y.end(1);
        y.row(0);
        Check.due("another end's ANCHOR", y.judge(1, 5, 0), -5);
    }

    /** "2 (i below k) time is below FROM; 3 (likewise) above TO": at FROM and at TO it is not. */
    static void promise25_fromAndTo() {
        SecureLines x = three(root().times(50, 50), mid().times(12, 18), leaf().times(10, 20));
        int[][] due = {{9, 2}, {10, 102}, {11, 102}, {12, 0}, {18, 0}, {19, 103}, {20, 103}, {21, 3}, {0, 2}, {-1, 2},
            {Integer.MIN_VALUE, 2}, {Integer.MAX_VALUE, 3}};
        for (int[] one : due) {
            Check.due("at " + one[0], judge(x, one[0], 0, 2, 1, 0), one[1]);
        }
        SecureLines y = three(root(), mid().times(0, Integer.MAX_VALUE), leaf().times(Integer.MAX_VALUE, Integer.MAX_VALUE));
        Check.due("at the most", judge(y, Integer.MAX_VALUE, 0, 2, 1, 0), 0);
        Check.due("one less", judge(y, Integer.MAX_VALUE - 1, 0, 2, 1, 0), 2);
    }

    /** "(of a PATH of one only 5)". */
    static void promise25_aPathOfOne() {
        SecureLines x = with(new Cert("a", "b", 5).times(9, 9).uses(2).by(6));
        Check.due("use 0", judge(x, 100, 0, 0), 0);
        Check.due("use 2", judge(x, 100, 2, 0), 0);
        Check.due("use 1", judge(x, 100, 1, 0), 5);
        x.setting(0, 0, 1);
        Check.due("STRICT", judge(x, 100, 2, 0), 0);
    }

    /** "5 its USES lack: c0 that use (0: none is asked), others 4": each byte 1 .. 15 and none. */
    static void promise25_uses() {
        for (int uses = 1; uses <= 15; uses++) {
            SecureLines x = three(root(), mid(), leaf().uses(uses));
            Check.due("use 0 of " + uses, judge(x, 5, 0, 2, 1, 0), 0);
            Check.due("use 1 of " + uses, judge(x, 5, 1, 2, 1, 0), (uses & 1) != 0 ? 0 : 5);
            Check.due("use 2 of " + uses, judge(x, 5, 2, 2, 1, 0), (uses & 2) != 0 ? 0 : 5);
            SecureLines y = three(root(), mid().uses(uses), leaf());
            Check.due("4 of the second, " + uses, judge(y, 5, 1, 2, 1, 0), (uses & 4) != 0 ? 0 : 105);
            SecureLines z = three(root().uses(uses), mid(), leaf());
            Check.due("4 of the third, " + uses, judge(z, 5, 1, 2, 1, 0), (uses & 4) != 0 ? 0 : 205);
        }
        Check.due("without all", judge(three(), 5, 1, 2, 1, 0), 0);
    }

    /** "6 (i above 0) its DEPTH is less than i - 1". */
    static void promise25_depth() {
        for (int i = 1; i <= 5; i++) {
            for (int depth = 0; depth <= 6; depth++) {
                int due = depth < i - 1 ? 6 + 100 * i : 0;
                Check.due("DEPTH " + depth + " at " + i, judgeLine(line(6, 5 - i, depth), 6), due);
            }
        }
        Check.due("of c0 it does not count", judgeLine(line(6, 5, 0), 6), 0);
    }

    /** "A NAME LIES UNDER a base, when it is the base, or ends with . and the base (of a PATTERN: what is behind *. does)". */
    static void promise25_liesUnder() {
        String[][] under = {{"b.c", "b.c"}, {"a.b.c", "b.c"}, {"x.a.b.c", "b.c"}, {"*.b.c", "b.c"}, {"*.a.b.c", "b.c"}, {"c", "c"},
            {"b.c", "c"}, {"*.b.c", "c"}};
        String[][] not = {{"ab.c", "b.c"}, {"c", "b.c"}, {"a.b.c", "a.b"}, {"b.c", "a.b.c"}, {"*.b.c", "a.b.c"}, {"b.cc", "b.c"},
            {"bb.c", "b.c"}, {"*.bb.c", "b.c"}, {"d", "c"}, {"-c", "c"}};
        for (String[] pair : under) {
            Check.due(pair[0] + " under " + pair[1], judge(three(root(), mid().permitted(pair[1]), leaf().names(pair[0])), 5, 0, 2, 1, 0), 0);
            Check.due(pair[0] + " excluded by " + pair[1],
                judge(three(root(), mid().excluded(pair[1]), leaf().names(pair[0])), 5, 0, 2, 1, 0), 107);
        }
        for (String[] pair : not) {
            Check.due(pair[0] + " not under " + pair[1],
                judge(three(root(), mid().permitted(pair[1]), leaf().names(pair[0])), 5, 0, 2, 1, 0), 107);
            Check.due(pair[0] + " not excluded by " + pair[1],
                judge(three(root(), mid().excluded(pair[1]), leaf().names(pair[0])), 5, 0, 2, 1, 0), 0);
        }
    }

    /** "7 (i above 0) some NAME of one of those before it does not LIE UNDER one of its PERMITTED (if it has any)". */
    static void promise25_someNameOfOneBefore() {
        String[] four = {"a.x", "b.x", "c.x", "d.x"};
        for (int k = 0; k < 4; k++) {
            String[] other = four.clone();
            other[k] = "e.y";
            Check.due("NAME " + k + " is not under", judge(three(root(), mid().permitted("x"), leaf().names(other)), 5, 0, 2, 1, 0), 107);
            Check.due("NAME " + k + " is under", judge(three(root(), mid().excluded("y"), leaf().names(other)), 5, 0, 2, 1, 0), 107);
            String[] bases = {"p", "q", "r", "s"};
            bases[k] = "x";
            Check.due("under base " + k, judge(three(root(), mid().permitted(bases), leaf().names(four)), 5, 0, 2, 1, 0), 0);
            Check.due("excluded by base " + k, judge(three(root(), mid().excluded(bases), leaf().names(four)), 5, 0, 2, 1, 0), 107);
            Check.due("of the third", judge(three(root().permitted("x"), mid(), leaf().names(other)), 5, 0, 2, 1, 0), 207);
            Check.due("of the third, the second one's", judge(three(root().permitted("x"), mid().names(other), leaf().names(four)), 5, 0, 2, 1, 0),
                207);
        }
        String[] strange = {"p", "q", "r.x", "xx"};
        for (int n = 1; n <= 4; n++) {
            String[] bases = Arrays.copyOf(strange, n);
            Check.due("under none of " + n, judge(three(root(), mid().permitted(bases), leaf().names(four)), 5, 0, 2, 1, 0), 107);
            Check.due("excluded by none of " + n, judge(three(root(), mid().excluded(bases), leaf().names(four)), 5, 0, 2, 1, 0), 0);
            Check.due("under one, excluded by none of " + n,
                judge(three(root(), mid().permitted("p", "q", "r", "x").excluded(bases), leaf().names(four)), 5, 0, 2, 1, 0), 0);
            Check.due("excluded by the base that would permit",
                judge(three(root(), mid().permitted(bases).excluded("x"), leaf().names(four)), 5, 0, 2, 1, 0), 107);
        }
        Check.due("no NAMES", judge(three(root().permitted("z"), mid().permitted("z"), new Cert("leaf", "mid", LEAF).serial(3)), 5, 0, 2, 1, 0), 0);
        Check.due("its own", judge(three(root(), mid().permitted("c").names("z"), leaf()), 5, 0, 2, 1, 0), 0);
        Check.due("of one alone", judge(with(root().permitted("z").names("a").by(ROOT)), 5, 0, 0), 0);
    }

    /** "the first WHY of the first step that has one": each WHY ahead of each later one of its step. */
    static void promise25_firstWhyOfAStep() {
        // 1 2 (3) 5 8 9 of c0
        Cert late = leaf().times(10, 20).uses(8);
        Check.due("1 ahead of 2, 5", judge(with(root().by(ROOT), mid().by(ROOT), late.by(LEAF)), 5, 1, 2, 1, 0), 1);
        Check.due("2 ahead of 5", judge(with(root().by(ROOT), mid().by(ROOT), late.by(MID)), 5, 1, 2, 1, 0), 2);
        Check.due("3 ahead of 5", judge(with(root().by(ROOT), mid().by(ROOT), late.by(MID)), 25, 1, 2, 1, 0), 3);
        SecureLines x = with(root().by(ROOT), mid().by(ROOT), leaf().uses(8).by(MID));
        x.setting(0, 0, 1);
        Check.due("5 ahead of 9", judge(x, 5, 1, 2, 1, 0), 5);
        list(x, Cert.list("mid", 1, 0, 90, 1, MID, 3));
        Check.due("5 ahead of 8", judge(x, 5, 1, 2, 1, 0), 5);
        Check.due("8", judge(x, 5, 0, 2, 1, 0), 8);
        // of c1: 1 2 4 5 6 7 9, of which one after another is mended
        Cert bad = new Cert("mid", "root", MID).serial(2).times(10, 20).uses(8).permitted("z");
        Check.due("101", judge(with(root().by(ROOT), bad.by(MID), leaf().by(MID)), 5, 0, 2, 1, 0), 101);
        Check.due("102", judge(with(root().by(ROOT), bad.by(ROOT), leaf().by(MID)), 5, 0, 2, 1, 0), 102);
        Check.due("103", judge(with(root().by(ROOT), bad.by(ROOT), leaf().by(MID)), 25, 0, 2, 1, 0), 103);
        Check.due("104", judge(with(root().by(ROOT), bad.by(ROOT), leaf().by(MID)), 15, 0, 2, 1, 0), 104);
        Check.due("105", judge(with(root().by(ROOT), bad.office().by(ROOT), leaf().by(MID)), 15, 0, 2, 1, 0), 105);
        SecureLines y = with(root().by(ROOT), mid().permitted("z").by(ROOT), leaf().by(MID));
        list(y, Cert.list("mid", 1, 0, 90, 1, MID));
        y.setting(0, 0, 1);
        Check.due("107 ahead of 109", judge(y, 15, 0, 2, 1, 0), 107);
        // of c2: 4 5 6 7
        Cert anchor = new Cert("root", "root", ROOT).uses(8).permitted("z");
        Check.due("204", judge(with(anchor.by(ROOT), mid().by(ROOT), leaf().by(MID)), 15, 0, 2, 1, 0), 204);
        Check.due("205", judge(with(anchor.office().depth(0).by(ROOT), mid().by(ROOT), leaf().by(MID)), 15, 0, 2, 1, 0), 205);
        Check.due("206", judge(with(anchor.uses(4).by(ROOT), mid().by(ROOT), leaf().by(MID)), 15, 0, 2, 1, 0), 206);
        Check.due("207", judge(with(anchor.depth(1).by(ROOT), mid().by(ROOT), leaf().by(MID)), 15, 0, 2, 1, 0), 207);
    }

    /** "the first step that has one". */
    static void promise25_firstStep() {
        SecureLines x = with(root().uses(1).by(ROOT), mid().uses(1).by(ROOT), leaf().uses(2).by(MID));
        Check.due("of c0", judge(x, 5, 1, 2, 1, 0), 5);
        Check.due("of c1", judge(x, 5, 2, 2, 1, 0), 105);
        SecureLines y = with(root().uses(1).by(ROOT), mid().by(ROOT), leaf().by(MID));
        Check.due("of c2", judge(y, 5, 2, 2, 1, 0), 205);
        // a low WHY of a later step does not come ahead of a high one of an earlier step
        SecureLines z = with(root().by(ROOT), mid().by(MID), leaf().by(MID));
        z.setting(0, 0, 1);
        Check.due("9 ahead of 101", judge(z, 5, 2, 2, 1, 0), 9);
    }

    /** "8 (i below k) it is REVOKED; 9 (likewise) it is UNKNOWN, and the end is STRICT". */
    static void promise25_revokedAndUnknown() {
        SecureLines x = three();
        list(x, Cert.list("root", 1, 0, 90, 1, ROOT, 1, 2));
        Check.due("the second REVOKED", judge(x, 5, 0, 2, 1, 0), 108);
        Check.due("behind the LIST's TO", judge(x, 91, 0, 2, 1, 0), 0);
        x.setting(0, 0, 1);
        Check.due("behind it, STRICT: the first is UNKNOWN", judge(x, 91, 0, 2, 1, 0), 9);
        list(x, Cert.list("mid", 1, 0, 95, 1, MID));
        Check.due("the second is UNKNOWN", judge(x, 91, 0, 2, 1, 0), 109);
        Check.due("at the TO", judge(x, 90, 0, 2, 1, 0), 108);
        Check.due("of the ANCHOR none is asked", judge(x, 96, 0, 0), 0);
        x.end(1);
        x.trust(1, 0);
        x.row(2);
        x.row(1);
        x.row(0);
        Check.due("an end that is not STRICT", x.judge(1, 91, 0), 0);
    }

    // ---- 26 build

    /** "BAD": end, CERTIFICATE, use; THE ROW stays. */
    static void promise26_refusals() {
        SecureLines x = three();
        x.row(1);
        int[] ends = {1, -1, 8, Integer.MIN_VALUE, Integer.MAX_VALUE};
        for (int e : ends) {
            Check.due("end " + e, x.build(e, 2, 5, 0), -1);
        }
        int[] certificates = {3, -1, 30, Integer.MIN_VALUE, Integer.MAX_VALUE};
        for (int c : certificates) {
            Check.due("certificate " + c, x.build(0, c, 5, 0), -1);
        }
        int[] uses = {-1, 3, Integer.MIN_VALUE, Integer.MAX_VALUE};
        for (int use : uses) {
            Check.due("use " + use, x.build(0, 2, 5, use), -1);
        }
        Check.due("THE ROW stays", x.step(-1) * 10 + x.step(0), 11);
    }

    /** "the first PATH of k up to 3". */
    static void promise26_kUpTo3() {
        for (int n = 1; n <= 6; n++) {
            SecureLines x = line(n, -1, 0);
            x.row(0);
            Check.due("of " + n, x.build(0, n - 1, 5, 0), n <= 4 ? n : 0);
            Check.due("THE ROW", x.step(-1), n <= 4 ? n : 0);
            for (int i = 0; i < n && n <= 4; i++) {
                Check.due("step " + i, x.step(i), n - 1 - i);
            }
        }
    }

    /** "0: there is none (THE ROW is empty)". */
    static void promise26_none() {
        SecureLines x = three();
        x.row(1);
        Check.due("above TO", x.build(0, 2, 1001, 0), 0);
        Check.due("THE ROW is empty", x.step(-1), 0);
        Check.due("at TO", x.build(0, 2, 1000, 0), 3);
        SecureLines y = new SecureLines();
        y.end(0);
        Own.hold(y, root().by(ROOT));
        Check.due("no ANCHORS", y.build(0, 0, 5, 0), 0);
    }

    /** "those with fewer steps first": an ANCHOR itself, one that is below it, one that is further. */
    static void promise26_fewerStepsFirst() {
        // 3 is a shorter way, but has a greater number
        SecureLines x = with(root().by(ROOT), mid().by(ROOT), leaf().by(MID), new Cert("mid", "x", MID).serial(7).office().by(50));
        Check.due("by the root", x.build(0, 2, 5, 0), 3);
        x.trust(0, 3);
        Check.due("by the nearer ANCHOR", x.build(0, 2, 5, 0), 2);
        Check.due("it", x.step(1), 3);
        x.trust(0, 2);
        Check.due("an ANCHOR itself", x.build(0, 2, 5, 0), 1);
        Check.due("an ANCHOR itself, any time", x.build(0, 2, 5000, 0), 1);
        SecureLines y = with(root().uses(2).by(ROOT), new Cert("root", "top", ROOT).serial(8).by(51), new Cert("top", "top", 51).office().by(51));
        y.trust(0, 2);
        Check.due("an ANCHOR whose use lacks has no other way", y.build(0, 0, 5, 1), 0);
    }

    /** "then by the numbers of their CERTIFICATES, c1 first". */
    static void promise26_byNumbers() {
        // leaf by one of two mids, each by one of two roots
        byte[][] row = {new Cert("r", "r", 31).serial(1).office().by(31), new Cert("r", "r", 31).serial(2).office().by(31),
            new Cert("m", "r", 32).serial(3).office().by(31), new Cert("m", "r", 32).serial(4).office().by(31),
            new Cert("l", "m", 33).serial(5).by(32)};
        SecureLines x = with(row);
        x.trust(0, 1);
        due(x, 5, 4, 2, 0);
        // only the second root is trusted
        SecureLines y = new SecureLines();
        y.end(0);
        for (byte[] one : row) {
            Own.hold(y, one);
        }
        y.trust(0, 1);
        due(y, 5, 4, 2, 1);
        // the first mid is REVOKED
        list(y, Cert.list("r", 1, 0, 90, 1, 31, 3));
        due(y, 5, 4, 3, 1);
        // c1 counts ahead of c2: the order of ANCHORS does not count
        SecureLines z = new SecureLines();
        z.end(0);
        for (int i = 4; i >= 0; i--) {
            Own.hold(z, row[i]);
        }
        z.trust(0, 4);
        z.trust(0, 3);
        due(z, 5, 0, 1, 3);
    }

    private static void due(SecureLines x, int time, int... row) {
        Check.due("build", x.build(0, row[0], time, 0), row.length);
        for (int i = 0; i < row.length; i++) {
            Check.due("step " + i, x.step(i), row[i]);
        }
    }

    /** A PATH's CERTIFICATES are all different, though all have one name and one KEY: an end is found. */
    static void promise26_ofThirtyAlike() {
        SecureLines x = new SecureLines();
        x.end(0);
        for (int i = 0; i < 30; i++) {
            Own.hold(x, new Cert("a", "a", 9).serial(i + 1).office().by(9));
        }
        Check.due("no ANCHOR", x.build(0, 0, 5, 0), 0);
        x.trust(0, 29);
        Check.due("the last", x.build(0, 0, 5, 0), 2);
        Check.due("it", x.step(1), 29);
        Check.due("above TO", x.build(0, 0, 1001, 0), 0);
    }

    // ---- 27 step

    /** "CERTIFICATE i of THE ROW; i = -1: how many. BAD." */
    static void promise27_fromMinus1ToTheLast() {
        SecureLines x = three();
        Check.due("none", x.step(-1), 0);
        Check.due("step(0) of none", x.step(0), -1);
        int[] row = {2, 0, 1, 1, 2, 0};
        for (int i = 0; i < 6; i++) {
            x.row(row[i]);
            Check.due("how many", x.step(-1), i + 1);
            Check.due("step " + i, x.step(i), row[i]);
            Check.due("step " + (i + 1), x.step(i + 1), -1);
        }
        int[] bad = {-2, 7, Integer.MIN_VALUE, Integer.MAX_VALUE};
        for (int i : bad) {
            Check.due("step " + i, x.step(i), -1);
        }
        for (int i = 0; i < 6; i++) {
            Check.due("step " + i, x.step(i), row[i]);
        }
    }

    // ---- 28 status

    private static void list(SecureLines x, byte[] row) {
        Own.feed(x, row);
        Check.that("held", x.list() >= 0);
    }

    private static void answer(SecureLines x, byte[] row) {
        Own.feed(x, row);
        Check.that("held", x.answer() >= 0);
    }

    /** "BAD": no such CERTIFICATES. */
    static void promise28_refusals() {
        SecureLines x = three();
        int[] bad = {3, -1, 30, Integer.MIN_VALUE, Integer.MAX_VALUE};
        for (int c : bad) {
            Check.due("status(" + c + ", 0)", x.status(c, 0, 5), -1);
            Check.due("status(0, " + c + ")", x.status(0, c, 5), -1);
        }
        Check.due("nothing is held", x.status(2, 1, 5), 2);
    }

    /** "FROM and TO around the time (either may be it)": of a LIST and of an ANSWER. */
    static void promise28_fromAndTo() {
        for (int way = 0; way < 2; way++) {
            SecureLines x = three();
            if (way == 0) {
                list(x, Cert.list("mid", 1, 10, 20, 1, MID, 3));
            } else {
                answer(x, Cert.answer("mid", 3, 1, 10, 20, 1, MID));
            }
            int[][] due = {{9, 2}, {10, 1}, {15, 1}, {20, 1}, {21, 2}, {-1, 2}, {Integer.MIN_VALUE, 2}, {Integer.MAX_VALUE, 2}};
            for (int[] one : due) {
                Check.due("at " + one[0], x.status(2, 1, one[0]), one[1]);
            }
            SecureLines y = three();
            if (way == 0) {
                list(y, Cert.list("mid", 1, 7, 7, 1, MID));
            } else {
                answer(y, Cert.answer("mid", 3, 0, 7, 7, 1, MID));
            }
            Check.due("of one minute", y.status(2, 1, 6) * 100 + y.status(2, 1, 7) * 10 + y.status(2, 1, 8), 202);
        }
    }

    /** "the LIST of the greatest number (of like ones that came last)". */
    static void promise28_greatestNumber() {
        int[] numbers = {0, 1, 127, 128, Integer.MAX_VALUE};
        for (int i = 0; i < numbers.length; i++) {
            for (int j = 0; j < numbers.length; j++) {
                SecureLines x = three();
                list(x, Cert.list("mid", numbers[i], 0, 90, 1, MID, 3));
                list(x, Cert.list("mid", numbers[j], 0, 90, 1, MID));
                Check.due(numbers[i] + ", then " + numbers[j], x.status(2, 1, 5), j >= i ? 0 : 1);
            }
        }
        SecureLines x = three();
        for (int i = 0; i < 12; i++) {
            list(x, Cert.list("mid", 5, 0, 90, 1, MID, i == 11 ? new int[] {3} : new int[] {2}));
            Check.due("of like ones the last", x.status(2, 1, 5), i == 11 ? 1 : 0);
        }
    }

    /** "by whether it has that SERIAL": the first, the last, one between, none. */
    static void promise28_hasThatSerial() {
        int[] forty = new int[40];
        for (int i = 0; i < 40; i++) {
            forty[i] = 10 + 2 * i;
        }
        int[] serials = {9, 10, 11, 48, 49, 86, 87, 88, 89, 1, Integer.MAX_VALUE};
        for (int serial : serials) {
            SecureLines x = with(root().by(ROOT), mid().by(ROOT), leaf().serial(serial).by(MID));
            list(x, Cert.list("mid", 1, 0, 90, 1, MID, forty));
            boolean has = serial >= 10 && serial <= 88 && serial % 2 == 0;
            Check.due("SERIAL " + serial, x.status(2, 1, 5), has ? 1 : 0);
            list(x, Cert.list("mid", 2, 0, 90, 1, MID));
            Check.due("a LIST of none", x.status(2, 1, 5), 0);
            list(x, Cert.list("mid", 3, 0, 90, 1, MID, serial));
            Check.due("a LIST of it alone", x.status(2, 1, 5), 1);
        }
    }

    /** "an ANSWER for c's SERIAL, the one that came last, tells": of 12, and ahead of any LIST. */
    static void promise28_answerThatCameLast() {
        SecureLines x = three();
        list(x, Cert.list("mid", Integer.MAX_VALUE, 0, 90, 1, MID, 3));
        for (int i = 0; i < 12; i++) {
            answer(x, Cert.answer("mid", 3, i & 1, 0, 90, 1, MID));
            Check.due("the last", x.status(2, 1, 5), i & 1);
        }
        SecureLines y = three();
        answer(y, Cert.answer("mid", 3, 1, 0, 90, 1, MID));
        int[] others = {0, 2, 4, Integer.MAX_VALUE};
        for (int serial : others) {
            answer(y, Cert.answer("mid", serial, 0, 0, 90, 1, MID));
        }
        Check.due("those of other SERIALS do not tell", y.status(2, 1, 5), 1);
    }

    /** "an i with use 8": each byte 1 .. 15. */
    static void promise28_use8() {
        for (int uses = 1; uses <= 15; uses++) {
            SecureLines x = three(root(), mid().uses(uses), leaf());
            answer(x, Cert.answer("mid", 3, 1, 0, 90, 1, MID));
            Check.due("USES " + uses, x.status(2, 1, 5), (uses & 8) != 0 ? 1 : 2);
        }
    }

    /** "(whose SUBJECT does not count)"; "have c's ISSUER"; "a SIGNATURE that FITS i's POINT". */
    static void promise28_whatCounts() {
        SecureLines x = with(root().by(ROOT), mid().by(ROOT), leaf().by(MID), new Cert("zz", "q", MID).by(5));
        answer(x, Cert.answer("mid", 3, 0, 0, 90, 1, MID));
        Check.due("another SUBJECT", x.status(2, 3, 5), 0);
        Check.due("another KEY", x.status(2, 0, 5), 2);
        Check.due("itself", x.status(2, 2, 5), 2);
        answer(x, Cert.answer("mi", 3, 1, 0, 90, 1, MID));
        answer(x, Cert.answer("midd", 3, 1, 0, 90, 1, MID));
        answer(x, Cert.answer("mid", 3, 1, 0, 90, 1, LEAF));
        Check.due("another ISSUER, another KEY", x.status(2, 1, 5), 0);
        byte[] wrong = Cert.answer("mid", 3, 1, 0, 90, 1, MID);
        wrong[wrong.length - 1] ^= 1;
        answer(x, wrong);
        Check.due("a SIGNATURE that does not FIT", x.status(2, 1, 5), 0);
        answer(x, Cert.answer("mid", 3, 1, 0, 90, 2, MID));
        Check.due("SCHEME 2", x.status(2, 1, 5), 1);
        Check.due("how it was asked is the same again", Arrays.hashCode(new int[] {x.status(2, 1, 5), x.status(2, 3, 5)}),
            Arrays.hashCode(new int[] {1, 1}));
    }
}
