/** Promises 1 to 6: a new object, THE TAPE, OUT, TIME. */
public final class TapeTest {
    public static void main(String[] args) {
        fresh();
        feedAndCut();
        outAndAgain();
        ticks();
        Check.end("TapeTest");
    }

    private static void fresh() {
        SecureLines x = new SecureLines();
        Check.due("tick(0) at first", x.tick(0), 0);
        Check.due("out(-1) at first", x.out(-1), 0);
        Check.due("out(0) at first", x.out(0), -1);
        Check.due("cut(0) at first", x.cut(0), 0);
        Check.due("again at first", x.again(), 0);
        Check.due("step(-1) at first", x.step(-1), 0);
        Check.due("field(0, 0) at first", x.field(0, 0), -1);
        Check.due("offer of no end", x.offer(0, 0, 1), -1);
        Check.due("told of no connection", x.told(0, 0, 0), -1);
        Check.due("account of no office", x.account(0, 1), -1);
        Check.due("add to no log", x.add(0, 1), -1);
        Check.due("BAD", SecureLines.BAD, -1);
        Check.due("NO", SecureLines.NO, -2);
        Check.due("FULL", SecureLines.FULL, -3);
        Check.due("NONE", SecureLines.NONE, -4);
        SecureLines y = new SecureLines();
        y.feed(2, 7);
        Check.due("another object's tape", x.cut(0), 0);
    }

    private static void feedAndCut() {
        SecureLines x = new SecureLines();
        Check.due("feed(0)", x.feed(0, 1), -1);
        Check.due("feed(9)", x.feed(9, 1), -1);
        Check.due("feed(-1)", x.feed(-1, 1), -1);
        Check.due("feed(3)", x.feed(3, 0x7f010203L), 3);
        Check.due("digest", x.digest(0), Own.digest(0, Own.bytes(1, 2, 3)));
        Check.due("feed(8)", x.feed(8, -2), 8);
        Check.due("feed(1)", x.feed(1, 511), 9);
        Check.due("digest", x.digest(1), Own.digest(1, Own.secret(-2), Own.bytes(255)));
        Check.due("tape is taken", x.cut(0), 0);
        x.feed(5, 0x0102030405L);
        Check.due("cut(6)", x.cut(6), -1);
        Check.due("cut(-1)", x.cut(-1), -1);
        Check.due("cut(5)", x.cut(5), 0);
        Check.due("cut(2)", x.cut(2), 3);
        Check.due("digest", x.digest(0), Own.digest(0, Own.bytes(1, 2)));
        for (int i = 1; i <= 100; i++) {
            Check.due("feed to 800", x.feed(8, i), 8 * i);
        }
        Check.due("feed beyond 800", x.feed(1, 1), -3);
        Check.due("BAD ahead of FULL", x.feed(9, 1), -1);
        Check.due("cut(796)", x.cut(796), 4);
        Check.due("feed(5) beyond", x.feed(5, 1), -3);
        Check.due("feed(4) to 800", x.feed(4, 1), 800);
    }

    private static void outAndAgain() {
        SecureLines x = new SecureLines();
        x.feed(3, 0x0a0b0cL);
        Check.due("seal", x.seal(1, 5, 6, 1), 10);
        Check.due("out(-1)", x.out(-1), 10);
        Check.due("out(-2)", x.out(-2), -1);
        Check.due("out(10)", x.out(10), -1);
        byte[] due = Own.seal(1, 5, 6, Own.bytes(10), Own.bytes(11, 12));
        for (int i = 0; i < 10; i++) {
            Check.due("out(" + i + ")", x.out(i), due[i] & 255);
        }
        x.feed(2, 0x0102L);
        Check.due("again", x.again(), 12);
        Check.due("digest", x.digest(0), Own.digest(0, Own.bytes(1, 2), due));
        Check.due("again", x.again(), 10);
        Check.due("OUT stays", x.out(-1), 10);
        x.cut(0);
        for (int i = 0; i < 99; i++) {
            x.feed(8, i);
        }
        Check.due("again beyond", x.again(), -3);
        Check.due("it stays", x.cut(790), 2);
        Check.due("again to 800", x.again(), 800);
    }

    private static void ticks() {
        SecureLines x = new SecureLines();
        Check.due("tick(5)", x.tick(5), 5);
        Check.due("tick(-1)", x.tick(-1), -1);
        Check.due("tick(1000001)", x.tick(1000001), -1);
        Check.due("tick(1000000)", x.tick(1000000), 1000005);
        SecureLines y = new SecureLines();
        for (int i = 1; i <= 2000; i++) {
            y.tick(1000000);
        }
        Check.due("tick(0)", y.tick(0), 2000000000);
        Check.due("tick(1)", y.tick(1), -2);
        Check.due("BAD ahead of NO", y.tick(1000001), -1);
        Check.due("tick(0)", y.tick(0), 2000000000);
    }
}
