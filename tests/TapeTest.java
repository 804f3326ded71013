/** Promises 1 to 6: a new object, THE TAPE, OUT, TIME. */
public final class TapeTest {
    public static void main(String[] args) {
        SecureLines x = new SecureLines();
        Check.due("out(-1) at first", x.out(-1), 0);
        Check.due("out(0) at first", x.out(0), -1);
        Check.due("tick(0) at first", x.tick(0), 0);
        Check.due("feed(0, 1)", x.feed(0, 1), -1);
        Check.due("feed(9, 1)", x.feed(9, 1), -1);
        Check.due("feed(3)", x.feed(3, 0x01020304L), 3);
        Check.end("TapeTest");
    }
}
