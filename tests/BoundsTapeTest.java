/** Promises 1 to 6 at their bounds: THE TAPE, OUT, TIME. */
public final class BoundsTapeTest {
    public static void main(String[] args) throws ReflectiveOperationException {
        Bounds.run(BoundsTapeTest.class);
    }

    /** An object whose TAPE has so many bytes, all 1. */
    private static SecureLines with(int n) {
        SecureLines x = new SecureLines();
        Own.feed(x, Own.rowOf(n, 1));
        return x;
    }

    /** "TIME 0". */
    static void promise01_timeIs0() {
        Check.due("tick(0)", new SecureLines().tick(0), 0);
    }

    /** "OUT .. (at first none)", THE TAPE is empty. */
    static void promise01_noTapeAndNoOut() {
        SecureLines x = new SecureLines();
        Check.due("out(-1)", x.out(-1), 0);
        Check.due("out(0)", x.out(0), -1);
        Check.due("again()", x.again(), 0);
        Check.due("cut(0)", x.cut(0), 0);
        Check.due("cut(1)", x.cut(1), -1);
    }

    /** "nothing is there": no number is one of a thing. */
    static void promise01_nothingIsThere() {
        SecureLines x = new SecureLines();
        Check.due("step(-1)", x.step(-1), 0);
        Check.due("step(0)", x.step(0), -1);
        Check.due("field(0, 0)", x.field(0, 0), -1);
        Check.due("text(0, 0, 0)", x.text(0, 0, 0), -1);
        Check.due("row(0)", x.row(0), -1);
        Check.due("status(0, 0, 0)", x.status(0, 0, 0), -1);
        Check.due("trust(0, 0)", x.trust(0, 0), -1);
        Check.due("random(0)", x.random(0), -1);
        Check.due("connection(0, -1)", x.connection(0, -1), -1);
        Check.due("line(0, 0, -1)", x.line(0, 0, -1), -1);
        Check.due("told(0, 0, 0)", x.told(0, 0, 0), -1);
        Check.due("account(0, 0)", x.account(0, 0), -1);
        Check.due("add(0, 0)", x.add(0, 0), -1);
        Check.due("head(0, 0)", x.head(0, 0), -1);
    }

    /** Each thing's first number is 0; THE ZONE has no NAME. */
    static void promise01_firstNumbersAre0() {
        SecureLines x = World.both();
        SecureLines y = new SecureLines();
        Check.due("end", y.end(0), 0);
        Check.due("log", y.log(), 0);
        Check.due("the first NAME of THE ZONE", zone(y), 1);
        Check.due("certificate", Own.hold(y, World.root()), 0);
        Check.due("office", y.office(0, World.ROOT, 1), 0);
        Check.due("account", y.account(0, 1), 0);
        Check.due("connection", x.connection(0, 1), 0);
    }

    private static int zone(SecureLines x) {
        x.feed(1, 'a');
        return x.zone(1);
    }

    /** Another object has its own. */
    static void promise01_objectsAreApart() {
        SecureLines x = new SecureLines();
        x.tick(9);
        x.feed(3, 1);
        x.end(1);
        SecureLines y = new SecureLines();
        Check.due("TIME", y.tick(0), 0);
        Check.due("THE TAPE", y.cut(0), 0);
        Check.due("no end", y.setting(0, 0, 0), -1);
    }

    /** "BAD: n is not 1 .. 8." */
    static void promise02_nIs1To8() {
        SecureLines x = with(2);
        int[] bad = {0, 9, -1, 10, Integer.MIN_VALUE, Integer.MAX_VALUE};
        for (int n : bad) {
            Check.due("feed(" + n + ")", x.feed(n, -1), -1);
        }
        Check.due("feed(1)", x.feed(1, 5), 3);
        Check.due("feed(8)", x.feed(8, 6), 11);
        Check.tape("only what was not refused", x, Own.bytes(1, 1, 5, 0, 0, 0, 0, 0, 0, 0, 6));
    }

    /** "The n lowest bytes of w, the highest of them first." */
    static void promise02_theLowestBytesOfAnyLong() {
        SecureLines x = new SecureLines();
        long[] longs = {0, -1, Long.MIN_VALUE, Long.MAX_VALUE, 0x0102030405060708L, 0xff00ff00ff00ff00L};
        for (long w : longs) {
            for (int n = 1; n <= 8; n++) {
                Check.due("feed(" + n + ")", x.feed(n, w), n);
                Check.tape("of " + w, x, Own.part(Own.secret(w), 8 - n, 8));
            }
        }
    }

    /** "THE TAPE is a row of 800 bytes at most"; "FULL: above 800." */
    static void promise02_800IsTheMost() {
        for (int n = 1; n <= 8; n++) {
            SecureLines x = with(800 - n);
            Check.due("to 800 by " + n, x.feed(n, 7), 800);
            Check.due("one more", x.feed(1, 7), -3);
            Check.due("still 800", x.cut(800), 0);
            SecureLines y = with(801 - n);
            Check.due("to 801 by " + n, y.feed(n, 7), -3);
            Check.tape("none of them came", y, Own.rowOf(801 - n, 1));
        }
    }

    /** "Of several the first told: BAD, .., FULL". */
    static void promise02_badAheadOfFull() {
        SecureLines x = with(800);
        Check.due("feed(0)", x.feed(0, 1), -1);
        Check.due("feed(9)", x.feed(9, 1), -1);
        Check.due("feed(8)", x.feed(8, 1), -3);
    }

    /** "THE TAPE keeps its first n bytes": n is 0 up to what it has; BAD beyond. */
    static void promise03_fromNoneToAll() {
        SecureLines x = new SecureLines();
        x.feed(5, 0x0102030405L);
        int[] bad = {6, -1, 801, Integer.MIN_VALUE, Integer.MAX_VALUE};
        for (int n : bad) {
            Check.due("cut(" + n + ")", x.cut(n), -1);
        }
        Check.due("cut(5)", x.cut(5), 0);
        Check.due("cut(4)", x.cut(4), 1);
        Check.due("what went is gone", x.cut(5), -1);
        x.feed(1, 9);
        Check.tape("the first ones, and one more", x, Own.bytes(1, 2, 3, 4, 9));
        x.feed(2, 7);
        Check.due("cut(0)", x.cut(0), 2);
        Check.due("cut(0) of none", x.cut(0), 0);
        Check.due("cut of 800", with(800).cut(0), 800);
    }

    /** "(Calls that say that they take it leave it empty, unless they answer BAD, NO, FULL.)" */
    static void promise03_takenUnlessRefused() {
        SecureLines x = with(3);
        Check.due("BAD", x.digest(2), -1);
        Check.due("kept with BAD", x.cut(3), 0);
        Check.due("NO", x.zone(1), -2);
        Check.due("kept with NO", x.cut(3), 0);
        x.end(0);
        Own.feed(x, Own.rowOf(197, 1));
        x.random(0);
        x.feed(1, 1);
        Check.due("FULL", x.random(0), -3);
        Check.due("kept with FULL", x.cut(1), 0);
        Check.due("-10", x.node(), -10);
        Check.due("taken with -10", x.cut(0), 0);
        x.feed(1, 1);
        Check.due("0", x.unseal(1, 1, 1, 0), 0);
        Check.due("taken with 0", x.cut(0), 0);
    }

    /** "Byte i of OUT; i = -1: how many it has. BAD." */
    static void promise04_fromMinus1ToTheLast() {
        SecureLines x = new SecureLines();
        Check.due("none: out(-1)", x.out(-1), 0);
        Check.due("none: out(0)", x.out(0), -1);
        x.seal(2, 5, 6, 0);
        byte[] due = Own.seal(2, 5, 6, new byte[0], new byte[0]);
        Check.due("out(-1)", x.out(-1), 4);
        Check.due("out(0)", x.out(0), due[0] & 255);
        Check.due("out(3)", x.out(3), due[3] & 255);
        int[] bad = {4, -2, Integer.MIN_VALUE, Integer.MAX_VALUE};
        for (int i : bad) {
            Check.due("out(" + i + ")", x.out(i), -1);
        }
    }

    /** Bytes are 0 .. 255. */
    static void promise04_bytesHaveNoSign() {
        SecureLines x = new SecureLines();
        x.end(0);
        x.feed(3, 0x0080ff);
        x.shared(0, 0, 1);
        x.ticket(0, 0, 0);
        Check.due("0", x.out(0), 0);
        Check.due("128", x.out(1), 128);
        Check.due("255", x.out(2), 255);
    }

    /** "OUT is the row that the latest call left there that tells so": others, and refused ones, let it stay. */
    static void promise04_outStaysTillAnotherOne() {
        SecureLines x = with(2);
        x.seal(2, 5, 6, 0);
        byte[] due = Own.seal(2, 5, 6, new byte[0], Own.rowOf(2, 1));
        x.feed(3, 9);
        x.digest(0);
        x.feed(3, 9);
        x.seal(0, 5, 6, 0);
        x.unseal(1, 5, 6, 0);
        x.text(0, 0, 0);
        x.ticket(0, 0, 0);
        x.bring(0, 0, 1);
        x.inclusion(0, 0, 1);
        x.consistency(0, 1, 1);
        Check.out("it stays", x, due);
        x.seal(2, 1, 1, 0);
        Check.out("another one", x, Own.seal(2, 1, 1, new byte[0], new byte[0]));
    }

    /** "OUT comes behind THE TAPE: how many that has. FULL." */
    static void promise05_800IsTheMost() {
        SecureLines x = with(6);
        x.seal(2, 5, 6, 0);
        byte[] due = Own.seal(2, 5, 6, new byte[0], Own.rowOf(6, 1));
        Own.feed(x, Own.rowOf(790, 3));
        Check.due("to 800", x.again(), 800);
        Check.tape("behind it", x, Own.rowOf(790, 3), due);
        Own.feed(x, Own.rowOf(791, 3));
        Check.due("to 801", x.again(), -3);
        Check.tape("nothing came", x, Own.rowOf(791, 3));
        Check.out("OUT stays", x, due);
    }

    /** An OUT of none comes behind any TAPE, and one of more than 800 behind none. */
    static void promise05_outOfNoneAndOfMoreThan800() {
        SecureLines x = with(800);
        Check.due("OUT of none", x.again(), 800);
        Check.due("seal", x.seal(2, 1, 1, 0), 804);
        Check.due("OUT of 804", x.again(), -3);
        Check.due("nothing came", x.cut(0), 0);
        SecureLines y = with(796);
        Check.due("seal", y.seal(2, 1, 1, 0), 800);
        Check.due("OUT of 800", y.again(), 800);
        Check.due("twice", y.again(), -3);
        Check.due("still 800", y.cut(0), 800);
    }

    /** "TIME goes on by n (0 .. 1000000): TIME. BAD". */
    static void promise06_nIs0To1000000() {
        SecureLines x = new SecureLines();
        int[] bad = {-1, 1000001, Integer.MIN_VALUE, Integer.MAX_VALUE};
        for (int n : bad) {
            Check.due("tick(" + n + ")", x.tick(n), -1);
        }
        Check.due("tick(0)", x.tick(0), 0);
        Check.due("tick(1000000)", x.tick(1000000), 1000000);
        Check.due("tick(1)", x.tick(1), 1000001);
        Check.due("tick(-1)", x.tick(-1), -1);
        Check.due("it stays", x.tick(0), 1000001);
    }

    /** "NO: beyond 2000000000." */
    static void promise06_2000000000IsTheMost() {
        SecureLines x = new SecureLines();
        for (int i = 1; i < 2000; i++) {
            x.tick(1000000);
        }
        Check.due("to 1999999999", x.tick(999999), 1999999999);
        Check.due("to 2000000001", x.tick(2), -2);
        Check.due("much more", x.tick(1000000), -2);
        Check.due("BAD ahead of NO", x.tick(1000001), -1);
        Check.due("it stays", x.tick(0), 1999999999);
        Check.due("to 2000000000", x.tick(1), 2000000000);
        Check.due("by 0", x.tick(0), 2000000000);
        Check.due("one more", x.tick(1), -2);
    }
}
