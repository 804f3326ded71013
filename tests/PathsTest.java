/** Promises 24 to 28: THE ROW, judge, build, step, status. */
public final class PathsTest {
    public static void main(String[] args) {
        rows();
        noPaths();
        whys();
        depths();
        names();
        standings();
        revokedOnPaths();
        built();
        manyBuilt();
        Check.end("PathsTest");
    }

    private static final int ROOT = 11;
    private static final int MID = 12;
    private static final int LEAF = 13;

    private static Cert root() {
        return new Cert("root", "root", ROOT).serial(1).office();
    }

    private static Cert mid() {
        return new Cert("mid", "root", MID).serial(2).office();
    }

    private static Cert leaf() {
        return new Cert("leaf", "mid", LEAF).serial(3).names("a.b.c");
    }

    /** An object with a client 0 that trusts certificate 0. */
    private static SecureLines with(byte[]... certificates) {
        SecureLines x = new SecureLines();
        x.end(0);
        for (int i = 0; i < certificates.length; i++) {
            Check.due("held", Own.hold(x, certificates[i]), i);
        }
        x.trust(0, 0);
        return x;
    }

    private static int judge(SecureLines x, int time, int use, int... row) {
        for (int c : row) {
            x.row(c);
        }
        int got = x.judge(0, time, use);
        Check.due("THE ROW is empty then", x.step(-1), 0);
        return got;
    }

    private static void rows() {
        SecureLines x = with(root().by(ROOT), mid().by(ROOT));
        Check.due("row(-1)", x.row(-1), -1);
        Check.due("row(2)", x.row(2), -1);
        Check.due("step(-1)", x.step(-1), 0);
        Check.due("step(0)", x.step(0), -1);
        Check.due("row(1)", x.row(1), 1);
        Check.due("row(1) again", x.row(1), 2);
        Check.due("row(0)", x.row(0), 3);
        x.row(0);
        x.row(0);
        Check.due("the sixth", x.row(1), 6);
        Check.due("the seventh", x.row(1), -3);
        Check.due("BAD ahead of FULL", x.row(2), -1);
        Check.due("step(-1)", x.step(-1), 6);
        Check.due("step(0)", x.step(0), 1);
        Check.due("step(2)", x.step(2), 0);
        Check.due("step(5)", x.step(5), 1);
        Check.due("step(6)", x.step(6), -1);
        Check.due("step(-2)", x.step(-2), -1);
        Check.due("judge no end", x.judge(1, 0, 0), -1);
        Check.due("judge end -1", x.judge(-1, 0, 0), -1);
        Check.due("judge use 3", x.judge(0, 0, 3), -1);
        Check.due("judge use -1", x.judge(0, 0, -1), -1);
        Check.due("not empty with BAD", x.step(-1), 6);
        Check.due("judge", x.judge(0, 0, 0), -5);
        Check.due("an empty ROW", x.judge(0, 0, 0), -1);
    }

    private static void noPaths() {
        SecureLines x = with(root().by(ROOT), mid().by(ROOT), leaf().by(MID), new Cert("leaf", "other", LEAF).by(MID));
        Check.due("a PATH", judge(x, 5, 0, 2, 1, 0), 0);
        Check.due("the last is no ANCHOR", judge(x, 5, 0, 2, 1), -5);
        Check.due("ISSUER is not the next one's SUBJECT", judge(x, 5, 0, 2, 0), -5);
        Check.due("another ISSUER", judge(x, 5, 0, 3, 1, 0), -5);
        Check.due("one twice", judge(x, 5, 0, 2, 1, 0, 0), -5);
        Check.due("of one", judge(x, 5, 0, 0), 0);
        Check.due("of one that is no ANCHOR", judge(x, 5, 0, 1), -5);
        byte[][] line = new byte[6][];
        for (int i = 0; i < 6; i++) {
            line[i] = new Cert("n" + i, i == 0 ? "n0" : "n" + (i - 1), 20 + i).office().by(i == 0 ? 20 : 19 + i);
        }
        SecureLines y = with(line);
        Check.due("of six", judge(y, 5, 0, 5, 4, 3, 2, 1, 0), 0);
    }

    private static void whys() {
        SecureLines x = with(root().times(10, 20).by(ROOT), mid().times(10, 20).by(ROOT), leaf().times(10, 20).by(MID));
        Check.due("none", judge(x, 10, 1, 2, 1, 0), 0);
        Check.due("none", judge(x, 20, 2, 2, 1, 0), 0);
        Check.due("below FROM", judge(x, 9, 0, 2, 1, 0), 2);
        Check.due("above TO", judge(x, 21, 0, 2, 1, 0), 3);
        Check.due("below 0", judge(x, -5, 0, 2, 1, 0), 2);
        Check.due("an ANCHOR's times do not count", judge(x, 9, 0, 0), 0);
        SecureLines times = with(root().times(10, 20).by(ROOT), mid().times(12, 20).by(ROOT), leaf().times(5, 30).by(MID));
        Check.due("the second below FROM", judge(times, 11, 0, 2, 1, 0), 102);
        Check.due("the second above TO", judge(times, 21, 0, 2, 1, 0), 103);
        Check.due("SIGNATURE ahead of times", judge(with(root().by(ROOT), mid().by(ROOT), leaf().times(10, 20).by(LEAF)),
            5, 0, 2, 1, 0), 1);
        Check.due("the second's SIGNATURE", judge(with(root().by(ROOT), mid().by(MID), leaf().by(MID)), 5, 0, 2, 1, 0), 101);
        Check.due("SCHEME 2", judge(with(root().scheme(2).by(MID), mid().scheme(2).by(ROOT), leaf().scheme(1).by(MID)),
            5, 0, 2, 1, 0), 0);
        Check.due("no OFFICE", judge(with(root().by(ROOT), new Cert("mid", "root", MID).by(ROOT), leaf().by(MID)),
            5, 0, 2, 1, 0), 104);
        Check.due("an ANCHOR is no OFFICE", judge(with(new Cert("root", "root", ROOT).by(ROOT), mid().by(ROOT)),
            5, 0, 1, 0), 104);
        Check.due("of one no OFFICE", judge(with(new Cert("root", "root", ROOT).by(ROOT)), 5, 0, 0), 0);
        Check.due("of one USES", judge(with(root().uses(2).by(ROOT)), 5, 1, 0), 5);
        Check.due("of one, none asked", judge(with(root().uses(8).times(9, 9).by(MID)), 5, 0, 0), 0);
        Check.due("USES 2 for 1", judge(with(root().by(ROOT), mid().by(ROOT), leaf().uses(14).by(MID)), 5, 1, 2, 1, 0), 5);
        Check.due("USES 1 for 2", judge(with(root().by(ROOT), mid().by(ROOT), leaf().uses(13).by(MID)), 5, 2, 2, 1, 0), 5);
        Check.due("USES 8 for 0", judge(with(root().by(ROOT), mid().by(ROOT), leaf().uses(8).by(MID)), 5, 0, 2, 1, 0), 0);
        Check.due("an issuer's USES 4", judge(with(root().uses(4).by(ROOT), mid().uses(4).by(ROOT), leaf().by(MID)),
            5, 0, 2, 1, 0), 0);
        Check.due("an issuer's USES", judge(with(root().by(ROOT), mid().uses(11).by(ROOT), leaf().by(MID)),
            5, 0, 2, 1, 0), 105);
        Check.due("an ANCHOR's USES", judge(with(root().uses(11).by(ROOT), mid().by(ROOT), leaf().by(MID)),
            5, 0, 2, 1, 0), 205);
        Check.due("USES ahead of DEPTH", judge(with(root().depth(0).uses(1).by(ROOT), mid().by(ROOT), leaf().by(MID)),
            5, 0, 2, 1, 0), 205);
        Check.due("the first step counts", judge(with(root().uses(1).by(ROOT), mid().by(ROOT), leaf().times(9, 9).by(MID)),
            5, 0, 2, 1, 0), 2);
    }

    private static void depths() {
        Check.due("DEPTH 0 over a leaf", judge(with(root().depth(1).by(ROOT), mid().depth(0).by(ROOT), leaf().by(MID)),
            5, 0, 2, 1, 0), 0);
        Check.due("an ANCHOR's DEPTH 0", judge(with(root().depth(0).by(ROOT), mid().by(ROOT), leaf().by(MID)),
            5, 0, 2, 1, 0), 206);
        byte[] low = new Cert("low", "mid", 14).office().by(MID);
        byte[] end = new Cert("end", "low", 15).by(14);
        Check.due("DEPTH 0 over two", judge(with(root().by(ROOT), mid().depth(0).by(ROOT), low, end), 5, 0, 3, 2, 1, 0), 206);
        Check.due("DEPTH 1 over two", judge(with(root().by(ROOT), mid().depth(1).by(ROOT), low, end), 5, 0, 3, 2, 1, 0), 0);
    }

    private static int named(Cert anchor, Cert middle, Cert last) {
        return judge(with(anchor.by(ROOT), middle.by(ROOT), last.by(MID)), 5, 0, 2, 1, 0);
    }

    private static void names() {
        Check.due("PERMITTED is the NAME", named(root(), mid().permitted("a.b.c"), leaf()), 0);
        Check.due("PERMITTED over the NAME", named(root(), mid().permitted("c"), leaf()), 0);
        Check.due("PERMITTED without a point ahead", named(root(), mid().permitted("b.c"), leaf().names("ab.c")), 107);
        Check.due("PERMITTED under the NAME", named(root(), mid().permitted("x.a.b.c"), leaf()), 107);
        Check.due("one of two PERMITTED", named(root(), mid().permitted("x", "b.c"), leaf()), 0);
        Check.due("one of two NAMES not", named(root(), mid().permitted("b.c"), leaf().names("a.b.c", "d")), 107);
        Check.due("both NAMES", named(root(), mid().permitted("b.c"), leaf().names("a.b.c", "d.b.c")), 0);
        Check.due("the second NAME EXCLUDED", named(root(), mid().excluded("b.c"), leaf().names("d", "a.b.c")), 107);
        Check.due("the second EXCLUDED", named(root(), mid().excluded("x", "b.c"), leaf()), 107);
        Check.due("no NAMES", named(root(), mid().permitted("x"), new Cert("leaf", "mid", LEAF)), 0);
        Check.due("EXCLUDED", named(root(), mid().excluded("b.c"), leaf()), 107);
        Check.due("EXCLUDED another", named(root(), mid().excluded("b.d", "x.a.b.c"), leaf()), 0);
        Check.due("PERMITTED and EXCLUDED", named(root(), mid().permitted("c").excluded("b.c"), leaf()), 107);
        Check.due("a PATTERN's base", named(root(), mid().permitted("b.c"), leaf().names("*.b.c")), 0);
        Check.due("a PATTERN above", named(root(), mid().permitted("a.b.c"), leaf().names("*.b.c")), 107);
        Check.due("by the ANCHOR", named(root().permitted("x"), mid(), leaf()), 207);
        Check.due("of the middle one", named(root().excluded("m"), mid().names("o.m"), leaf()), 207);
        Check.due("its own do not count", named(root(), mid().names("o.m").excluded("m"), leaf()), 0);
        Check.due("DEPTH ahead of NAMES", named(root().depth(0).permitted("x"), mid(), leaf()), 206);
    }

    private static int list(SecureLines x, byte[] row) {
        Own.feed(x, row);
        return x.list();
    }

    private static int answer(SecureLines x, byte[] row) {
        Own.feed(x, row);
        return x.answer();
    }

    private static void standings() {
        SecureLines x = with(root().by(ROOT), mid().by(ROOT), leaf().by(MID), new Cert("other", "o", MID).uses(4).by(1),
            new Cert("else", "o", MID).uses(8).by(1), new Cert("more", "o", MID).uses(7).by(1));
        Check.due("status(6)", x.status(6, 0, 0), -1);
        Check.due("status(0, 6)", x.status(0, 6, 0), -1);
        Check.due("status(-1)", x.status(-1, 0, 0), -1);
        Check.due("status(0, -1)", x.status(0, -1, 0), -1);
        Check.due("UNKNOWN", x.status(2, 1, 50), 2);
        list(x, Cert.list("mid", 0, 10, 90, 1, MID, 3));
        Check.due("on a LIST of number 0", x.status(2, 1, 50), 1);
        list(x, Cert.list("mid", 1, 10, 90, 1, MID, 2, 4));
        Check.due("not on a LIST", x.status(2, 1, 50), 0);
        Check.due("at its FROM", x.status(2, 1, 10), 0);
        Check.due("ahead of it", x.status(2, 1, 9), 2);
        Check.due("at its TO", x.status(2, 1, 90), 0);
        Check.due("behind it", x.status(2, 1, 91), 2);
        Check.due("by one without use 8", x.status(2, 3, 50), 2);
        Check.due("by one with use 1", x.status(2, 5, 50), 2);
        Check.due("whose SUBJECT does not count", x.status(2, 4, 50), 0);
        Check.due("by another KEY", x.status(2, 0, 50), 2);
        Check.due("of another ISSUER", x.status(1, 1, 50), 2);
        list(x, Cert.list("mid", 2, 10, 60, 2, MID, 2, 3, 4));
        Check.due("the greater number", x.status(2, 1, 50), 1);
        Check.due("only those of the time", x.status(2, 1, 61), 0);
        list(x, Cert.list("mid", 1, 10, 90, 1, MID, 3));
        list(x, Cert.list("mid", 0, 10, 90, 1, MID));
        Check.due("of like ones the last", x.status(2, 1, 61), 1);
        Check.due("the greater number stays", x.status(2, 1, 50), 1);
        list(x, Cert.list("mid", 9, 10, 90, 1, LEAF));
        list(x, Cert.list("root", 9, 10, 90, 1, MID));
        Check.due("wrong SIGNATURE, wrong ISSUER", x.status(2, 1, 50), 1);
        answer(x, Cert.answer("mid", 3, 0, 10, 50, 1, MID));
        Check.due("an ANSWER tells", x.status(2, 1, 50), 0);
        Check.due("in its time", x.status(2, 1, 51), 1);
        answer(x, Cert.answer("mid", 4, 1, 10, 50, 1, MID));
        Check.due("of another SERIAL", x.status(2, 1, 50), 0);
        answer(x, Cert.answer("mid", 3, 1, 20, 50, 2, MID));
        Check.due("the last tells", x.status(2, 1, 50), 1);
        Check.due("the last in its time", x.status(2, 1, 19), 0);
        answer(x, Cert.answer("mid", 3, 0, 20, 50, 2, LEAF));
        answer(x, Cert.answer("root", 3, 0, 20, 50, 2, MID));
        Check.due("wrong SIGNATURE, wrong ISSUER", x.status(2, 1, 50), 1);
    }

    private static void revokedOnPaths() {
        SecureLines x = with(root().by(ROOT), mid().by(ROOT), leaf().by(MID));
        x.setting(0, 0, 1);
        Check.due("UNKNOWN, STRICT", judge(x, 50, 0, 2, 1, 0), 9);
        answer(x, Cert.answer("mid", 3, 0, 10, 90, 1, MID));
        Check.due("the second UNKNOWN, STRICT", judge(x, 50, 0, 2, 1, 0), 109);
        x.setting(0, 0, 0);
        Check.due("not STRICT", judge(x, 50, 0, 2, 1, 0), 0);
        x.setting(0, 0, 1);
        answer(x, Cert.answer("root", 2, 0, 10, 90, 1, ROOT));
        Check.due("known", judge(x, 50, 0, 2, 1, 0), 0);
        Check.due("an ANCHOR is not asked for", judge(x, 50, 0, 0), 0);
        list(x, Cert.list("root", 1, 10, 90, 1, ROOT, 2));
        Check.due("an ANSWER ahead of a LIST", judge(x, 50, 0, 2, 1, 0), 0);
        answer(x, Cert.answer("root", 2, 1, 40, 60, 1, ROOT));
        Check.due("REVOKED", judge(x, 50, 0, 2, 1, 0), 108);
        Check.due("UNKNOWN ahead", judge(x, 95, 0, 2, 1, 0), 9);
        answer(x, Cert.answer("mid", 3, 1, 40, 60, 1, MID));
        Check.due("the first REVOKED", judge(x, 50, 0, 2, 1, 0), 8);
    }

    private static void built() {
        // two ways from the leaf: by mid (1) or by a cross certificate (3), of which 1 is told first
        SecureLines x = with(root().by(ROOT), mid().by(ROOT), leaf().by(MID),
            new Cert("mid", "top", MID).office().by(14), new Cert("top", "top", 14).office().by(14));
        Check.due("build", x.build(0, 2, 5, 0), 3);
        Check.due("step(-1)", x.step(-1), 3);
        Check.due("step(0)", x.step(0), 2);
        Check.due("step(1)", x.step(1), 1);
        Check.due("step(2)", x.step(2), 0);
        Check.due("BAD end", x.build(1, 2, 5, 0), -1);
        Check.due("BAD certificate", x.build(0, 5, 5, 0), -1);
        Check.due("BAD certificate", x.build(0, -1, 5, 0), -1);
        Check.due("BAD use", x.build(0, 2, 5, 3), -1);
        Check.due("BAD use", x.build(0, 2, 5, -1), -1);
        Check.due("THE ROW stays with BAD", x.step(-1), 3);
        Check.due("none at a time", x.build(0, 2, 5000, 0), 0);
        Check.due("THE ROW is empty", x.step(-1), 0);
        x.trust(0, 4);
        Check.due("still by the lower number", x.build(0, 2, 5, 0), 3);
        Check.due("step(1)", x.step(1), 1);
        list(x, Cert.list("root", 1, 0, 90, 1, ROOT, 2));
        Check.due("1 is REVOKED: by 3", x.build(0, 2, 5, 0), 3);
        Check.due("step(1)", x.step(1), 3);
        Check.due("step(2)", x.step(2), 4);
        Check.due("an ANCHOR itself", x.build(0, 0, 5000, 0), 1);
        Check.due("step(0)", x.step(0), 0);
        x.trust(0, 2);
        Check.due("fewer steps first", x.build(0, 2, 5000, 0), 1);
        Check.due("signed by the key of another name", with(root().by(ROOT), new Cert("x", "other", 5).by(ROOT))
            .build(0, 1, 5, 0), 0);
        Check.due("a use that lacks", with(root().by(ROOT), mid().uses(4).by(ROOT)).build(0, 1, 5, 1), 0);
        byte[][] line = new byte[5][];
        for (int i = 0; i < 5; i++) {
            line[i] = new Cert("n" + i, i == 0 ? "n0" : "n" + (i - 1), 20 + i).office().by(i == 0 ? 20 : 19 + i);
        }
        SecureLines y = with(line);
        Check.due("k is 3", y.build(0, 3, 5, 0), 4);
        Check.due("k would be 4", y.build(0, 4, 5, 0), 0);
        y.trust(0, 1);
        Check.due("by another ANCHOR", y.build(0, 4, 5, 0), 4);
        Check.due("step(3)", y.step(3), 1);
    }

    /** All thirty have one name and one key, so that every row of different ones is a line. */
    private static void manyBuilt() {
        SecureLines x = new SecureLines();
        x.end(0);
        for (int i = 0; i < 30; i++) {
            Cert cert = new Cert("n", "n", 5).serial(i + 1).uses(i == 0 ? 11 : 15);
            Own.hold(x, (i == 29 ? cert : cert.office()).by(5));
        }
        Check.due("without ANCHORS", x.build(0, 0, 5, 0), 0);
        x.trust(0, 29);
        Check.due("an ANCHOR that is no OFFICE", x.build(0, 0, 5, 0), 0);
        x.trust(0, 28);
        Check.due("one step", x.build(0, 0, 5, 0), 2);
        Check.due("to the ANCHOR", x.step(1), 28);
        list(x, Cert.list("n", 1, 0, 90, 1, 5, 1));
        Check.due("REVOKED", x.build(0, 0, 5, 0), 0);
        Check.due("another", x.build(0, 1, 5, 0), 2);
    }
}
