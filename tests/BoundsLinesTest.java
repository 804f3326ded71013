import java.util.Arrays;
import java.util.TreeMap;

/** Promises 45 to 51 at their bounds: what sides say and hear, and what is told of them. */
public final class BoundsLinesTest {
    private static final byte[] NONE = {};
    private static final int[] NO_LINE = {-1, 3, 12, Integer.MIN_VALUE, Integer.MAX_VALUE};
    private static final int[] NO_SIDE = {-1, 2, Integer.MIN_VALUE, Integer.MAX_VALUE};

    public static void main(String[] args) throws ReflectiveOperationException {
        Bounds.run(BoundsLinesTest.class);
    }

    /** CONNECTIONS 0 (both open), 1 (the caller is the client), 2 (the caller is the server). */
    private static SecureLines three() {
        SecureLines x = World.both();
        Stage.open(x);
        x.connection(-1, 1);
        x.connection(0, -1);
        return x;
    }

    // ---- 45 say

    /** "BAD; NO: the side is the caller, is not open, has CLOSED or ENDED": THE TAPE stays. */
    static void promise45_refusals() {
        SecureLines x = three();
        x.feed(2, 5);
        for (int c : NO_LINE) {
            Check.due("c " + c, x.say(c, 0), -1);
        }
        for (int side : NO_SIDE) {
            Check.due("side " + side, x.say(0, side), -1);
        }
        Check.due("the caller, a client", x.say(1, 0), -2);
        Check.due("the caller, a server", x.say(2, 1), -2);
        Check.due("a server that greets", x.say(1, 1), -2);
        Check.due("a client that greets", x.say(2, 0), -2);
        x.close(0, 0);
        Check.due("one that CLOSED", x.say(0, 0), -2);
        Check.due("THE TAPE stays", x.cut(2), 0);
        Check.due("the other one", x.say(0, 1), 2);
        Check.due("it took THE TAPE", x.cut(0), 0);
        x.feed(3, 0xffffff);
        x.give(0, 1);
        Check.due("one that ENDED", x.say(0, 1), -2);
        x.feed(1, 5);
        Check.due("one that ENDED, with bytes", x.say(0, 1), -2);
    }

    /** "1 open (a client from its END on, a server behind the client's END)": till then NO. */
    static void promise45_openFromWhenOn() {
        SecureLines x = World.both();
        int c = x.connection(0, 1);
        int client = 0;
        int server = 0;
        for (int turn = 0; turn < 4000 && server == 0; turn++) {
            x.bring(c, 0, 1);
            x.bring(c, 1, 1);
            client = x.told(c, 0, 0);
            server = x.told(c, 1, 0);
            Check.due("the client says", x.say(c, 0), client == 1 ? 0 : -2);
            Check.due("the server says", x.say(c, 1), server == 1 ? 0 : -2);
        }
        Check.due("both are open", client + server, 2);
    }

    /** "in RECORDS of 200 bytes (none of no bytes): how many bytes". */
    static void promise45_recordsOf200() {
        int[] counts = {0, 1, 199, 200, 201, 399, 400, 401, 599, 600, 601, 799, 800};
        for (int n : counts) {
            for (int side = 0; side <= 1; side++) {
                SecureLines x = World.both();
                int c = Stage.open(x);
                int number = x.told(c, side, 10);
                byte[] due = World.tape(x, n);
                Check.due("say " + n, x.say(c, side), n);
                Check.due("it took THE TAPE", x.cut(0), 0);
                int records = (n + 199) / 200;
                Check.due("RECORDS of " + n, x.told(c, side, 10), number + records);
                Check.due("on the line", x.line(c, side, -1), n + 12 * records);
                for (int i = 0; i < records; i++) {
                    int size = Math.min(200, n - 200 * i) + 9;
                    Check.due("its kind", x.line(c, side, 212 * i), 23);
                    Check.due("its size", x.line(c, side, 212 * i + 1) * 256 + x.line(c, side, 212 * i + 2), size);
                }
                World.carry(x, c);
                boolean same = true;
                for (byte one : due) {
                    same &= x.hear(c, 1 - side) == (one & 255);
                }
                Check.that("they are heard", same);
                Check.due("no more", x.hear(c, 1 - side), -10);
            }
        }
    }

    /** "FULL: above 2000 bytes wait on its line": 2000 is not above; NO is ahead of it. */
    static void promise45_above2000() {
        for (int waits = 1999; waits <= 2001; waits++) {
            SecureLines x = World.both();
            int c = Stage.open(x);
            World.say(x, c, 0, waits - 120);
            Check.due("they wait", x.line(c, 0, -1), waits);
            World.tape(x, 800);
            Check.due("say", x.say(c, 0), waits <= 2000 ? 800 : -3);
            Check.due("THE TAPE then", x.cut(0), waits <= 2000 ? 0 : 800);
            Check.due("none of no bytes", x.say(c, 0), -3);
            Check.due("BAD ahead of FULL", x.say(c, 2), -1);
            Check.due("the other one's line does not count", x.say(c, 1), 0);
            x.close(c, 0);
            Check.due("NO ahead of FULL", x.say(c, 0), -2);
        }
    }

    // ---- 46 hear

    /** "BAD": no such side, the caller's. */
    static void promise46_refusals() {
        SecureLines x = three();
        for (int c : NO_LINE) {
            Check.due("c " + c, x.hear(c, 0), -1);
        }
        for (int side : NO_SIDE) {
            Check.due("side " + side, x.hear(0, side), -1);
        }
        Check.due("the caller, a client", x.hear(1, 0), -1);
        Check.due("the caller, a server", x.hear(2, 1), -1);
        Check.due("a server that greets", x.hear(1, 1), -10);
        Check.due("a client that greets", x.hear(2, 0), -10);
        Check.due("one that is open", x.hear(0, 0), -10);
    }

    /** "(of what came, 2000 at most are kept till heard: more are lost)": 1999, 2000, 2001; there is room again then. */
    static void promise46_2000AreKept() {
        for (int n = 1999; n <= 2003; n++) {
            SecureLines x = World.both();
            Stage.open(x);
            Peer peer = Stage.served(x);
            for (int left = n; left > 0; left -= 200) {
                byte[] part = new byte[Math.min(left, 200)];
                for (int i = 0; i < part.length; i++) {
                    part[i] = (byte) ((n - left + i) % 251);
                }
                peer.give(peer.record(23, part));
            }
            Check.due("no ALERT", peer.told(6), -4);
            Check.due("the first", x.hear(peer.c, 1), 0);
            peer.give(peer.record(23, Own.bytes(252, 253)));
            boolean same = true;
            int kept = Math.min(n, 2000);
            for (int i = 1; i < kept; i++) {
                same &= x.hear(peer.c, 1) == i % 251;
            }
            Check.that("the first 2000, in order", same);
            Check.due("what came then", x.hear(peer.c, 1), 252);
            Check.due("and what goes in", x.hear(peer.c, 1), n < 2000 ? 253 : -10);
            Check.due("no more", x.hear(peer.c, 1), -10);
        }
    }

    /** Bytes are 0 .. 255. */
    static void promise46_bytesHaveNoSign() {
        SecureLines x = World.both();
        int c = Stage.open(x);
        x.feed(4, 0x007f80ff);
        x.say(c, 0);
        World.carry(x, c);
        Check.due("0", x.hear(c, 1), 0);
        Check.due("127", x.hear(c, 1), 127);
        Check.due("128", x.hear(c, 1), 128);
        Check.due("255", x.hear(c, 1), 255);
        Check.due("none", x.hear(c, 1), -10);
    }

    /** "without one -11: the other one CLOSED (asked first); -12: this side ENDED; -10 else": what was said is heard ahead of that. */
    static void promise46_withoutOne() {
        SecureLines x = World.both();
        int c = Stage.open(x);
        x.feed(2, 0x0102);
        x.say(c, 0);
        x.close(c, 0);
        World.carry(x, c);
        Check.due("what was said", x.hear(c, 1), 1);
        Check.due("what was said", x.hear(c, 1), 2);
        Check.due("the other one CLOSED", x.hear(c, 1), -11);
        Check.due("this side CLOSED", x.hear(c, 0), -10);
        SecureLines y = World.both();
        c = Stage.open(y);
        y.feed(1, 3);
        y.say(c, 0);
        World.carry(y, c);
        y.feed(3, 0xffffff);
        y.give(c, 1);
        Check.due("what was said ahead of the end", y.hear(c, 1), 3);
        Check.due("this side ENDED", y.hear(c, 1), -12);
        World.carry(y, c);
        Check.due("the other one ENDED, too", y.hear(c, 0), -12);
        // one that CLOSED, and then ended by an ALERT that came: what comes behind 0 is lost, so it is itself that ends
        Peer peer = Stage.served(World.both());
        peer.x.close(peer.c, 1);
        peer.give(peer.sealed(Own.bytes(7, 21)));
        Check.due("it ENDED", peer.x.hear(peer.c, 1), -12);
        Peer other = Stage.served(World.both());
        other.give(other.sealed(Own.bytes(0, 21)));
        Check.due("the other one CLOSED", other.x.hear(other.c, 1), -11);
        other.give(other.sealed(Own.bytes(7, 21)));
        Check.due("what comes behind is lost", other.x.hear(other.c, 1), -11);
        Check.due("it did not end", other.told(0), 1);
    }

    // ---- 47 close

    /** "BAD; NO as say()". */
    static void promise47_refusals() {
        SecureLines x = three();
        for (int c : NO_LINE) {
            Check.due("c " + c, x.close(c, 0), -1);
        }
        for (int side : NO_SIDE) {
            Check.due("side " + side, x.close(0, side), -1);
        }
        Check.due("the caller, a client", x.close(1, 0), -2);
        Check.due("the caller, a server", x.close(2, 1), -2);
        Check.due("a server that greets", x.close(1, 1), -2);
        Check.due("a client that greets", x.close(2, 0), -2);
        Check.due("not CLOSED by that", x.told(2, 0, 8), 0);
        Check.due("one that is open", x.close(0, 1), 1);
        Check.due("again", x.close(0, 1), -2);
        Check.due("the other one", x.close(0, 0), 1);
        SecureLines y = World.both();
        int c = Stage.open(y);
        y.feed(3, 0xffffff);
        y.give(c, 1);
        Check.due("one that ENDED", y.close(c, 1), -2);
        Check.due("not CLOSED by that", y.told(c, 1, 8), 0);
    }

    /** It has no FULL: also where above 2000 bytes wait. */
    static void promise47_neverFull() {
        SecureLines x = World.both();
        int c = Stage.open(x);
        World.say(x, c, 0, 2400);
        Check.due("above 2000 wait", x.line(c, 0, -1), 2400 + 144);
        Check.due("say is FULL", x.say(c, 0), -3);
        Check.due("close is not", x.close(c, 0), 1);
        Check.due("its RECORD", x.line(c, 0, -1), 2400 + 144 + 13);
        Check.due("the ALERT put", x.told(c, 0, 6), 0);
    }

    /** One that CLOSED hears the other one still, and is asked for no NEW KEYS; its ALERTS are put. */
    static void promise47_oneThatClosed() {
        SecureLines x = World.both();
        int c = Stage.open(x);
        x.close(c, 0);
        Check.due("still open", x.told(c, 0, 0), 1);
        x.feed(1, 9);
        x.say(c, 1);
        x.renew(c, 1, 1);
        World.carry(x, c);
        Check.due("it hears", x.hear(c, 0), 9);
        Check.due("its own key stays", x.key(c, 0, 0), x.key(c, 1, 1));
        Check.due("its key for reading is new", x.key(c, 0, 1), x.key(c, 1, 0));
        int before = x.line(c, 0, -1);
        x.feed(3, 0xffffff);
        x.give(c, 0);
        Check.due("it ENDS", x.told(c, 0, 0), 2);
        Check.due("its ALERT", x.told(c, 0, 6), 10);
        Check.due("it is put", x.line(c, 0, -1), before + 13);
        Check.due("CLOSED still", x.told(c, 0, 8), 1);
    }

    // ---- 48 renew

    /** "BAD: ask; NO, FULL as say()". */
    static void promise48_refusals() {
        SecureLines x = three();
        int[] asks = {-1, 2, Integer.MIN_VALUE, Integer.MAX_VALUE};
        long key = x.key(0, 0, 0);
        for (int ask : asks) {
            Check.due("ask " + ask, x.renew(0, 0, ask), -1);
            Check.due("BAD ahead of NO", x.renew(1, 0, ask), -1);
        }
        for (int c : NO_LINE) {
            Check.due("c " + c, x.renew(c, 0, 0), -1);
        }
        for (int side : NO_SIDE) {
            Check.due("side " + side, x.renew(0, side, 0), -1);
        }
        for (int ask = 0; ask <= 1; ask++) {
            Check.due("the caller, a client", x.renew(1, 0, ask), -2);
            Check.due("the caller, a server", x.renew(2, 1, ask), -2);
            Check.due("a server that greets", x.renew(1, 1, ask), -2);
            Check.due("a client that greets", x.renew(2, 0, ask), -2);
        }
        Check.due("nothing was done", x.key(0, 0, 0), key);
        Check.due("renew", x.renew(0, 0, 1), 1);
        x.close(0, 0);
        Check.due("one that CLOSED", x.renew(0, 0, 0), -2);
        x.feed(3, 0xffffff);
        x.give(0, 1);
        Check.due("one that ENDED", x.renew(0, 1, 0), -2);
    }

    /** "FULL as say()": 2000 is not above. */
    static void promise48_above2000() {
        for (int waits = 1999; waits <= 2001; waits++) {
            SecureLines x = World.both();
            int c = Stage.open(x);
            World.say(x, c, 1, waits - 120);
            long key = x.key(c, 1, 0);
            boolean good = waits <= 2000;
            Check.due("renew at " + waits, x.renew(c, 1, 0), good ? 1 : -3);
            Check.due("its key", x.key(c, 1, 0), good ? Own.derived(0, key, 'u', 0) : key);
            Check.due("its RECORD", x.line(c, 1, -1), good ? waits + 16 : waits);
            Check.due("BAD ahead of FULL", x.renew(c, 1, 2), -1);
        }
    }

    /** "number (from 0 on with each key)", many times over. */
    static void promise48_manyTimes() {
        SecureLines x = World.both();
        int c = Stage.open(x);
        long client = x.key(c, 0, 0);
        long server = x.key(c, 1, 0);
        for (int i = 0; i < 60; i++) {
            Check.due("renew", x.renew(c, 0, i & 1), 1);
            client = Own.derived(0, client, 'u', 0);
            server = (i & 1) == 1 ? Own.derived(0, server, 'u', 0) : server;
            Check.due("number to write", x.told(c, 0, 10), 0);
            World.carry(x, c);
            Check.due("number to read", x.told(c, 1, 11), 0);
            Check.due("the client's key", x.key(c, 1, 1), client);
            Check.due("the server's key", x.key(c, 0, 1), server);
        }
        Check.due("MESSAGES", x.told(c, 1, 13), 62);
        Check.due("MESSAGES", x.told(c, 0, 13), 36);
    }

    // ---- 49 told

    /** "BAD: also the caller's side": each number of told(). */
    static void promise49_refusals() {
        SecureLines x = three();
        for (int what = 0; what <= 14; what++) {
            Check.due("the caller, a client: " + what, x.told(1, 0, what), -1);
            Check.due("the caller, a server: " + what, x.told(2, 1, what), -1);
            Check.that("a side: " + what, x.told(1, 1, what) != -1);
        }
        int[] whats = {-1, 15, 16, Integer.MIN_VALUE, Integer.MAX_VALUE};
        for (int what : whats) {
            Check.due("what " + what, x.told(0, 0, what), -1);
        }
        for (int c : NO_LINE) {
            Check.due("c " + c, x.told(c, 0, 0), -1);
        }
        for (int side : NO_SIDE) {
            Check.due("side " + side, x.told(0, side, 0), -1);
        }
    }

    /** What is told ahead of anything: 0s, and NONE of ALERTS. */
    static void promise49_atFirst() {
        SecureLines x = three();
        for (int what = 0; what <= 14; what++) {
            int due = what == 6 || what == 7 ? -4 : 0;
            Check.due("a server, " + what, x.told(1, 1, what), due);
            Check.due("a client, " + what, x.told(2, 0, what), due);
        }
    }

    /** "6 the ALERT that it put, 7 got (NONE; of several the last one)". */
    static void promise49_ofSeveralAlertsTheLast() {
        Peer peer = Stage.served(World.both());
        peer.x.close(peer.c, 1);
        Check.due("put 0", peer.told(6), 0);
        peer.give(Own.bytes(9, 9, 9));
        Check.due("put 10 then", peer.told(6), 10);
        Check.due("got none", peer.told(7), -4);
        Peer got = Stage.served(World.both());
        got.give(got.sealed(Own.bytes(0, 21)));
        Check.due("got 0", got.told(7), 0);
        got.give(got.sealed(Own.bytes(5, 21)));
        Check.due("what comes behind is lost", got.told(7), 0);
    }

    /** "1 SUITE (from RETRY, ANSWER on; 0 ahead), 2 GROUP (of the exchange, from ANSWER on; 0 without), 3 SCHEME (..)". */
    static void promise49_suiteGroupScheme() {
        SecureLines x = World.both();
        x.offer(1, 0, 3);
        x.offer(1, 1, 3);
        x.offer(1, 2, 2);
        int c = x.connection(0, 1);
        dueSuite(x, c, 0, 0, 0, 0);
        dueSuite(x, c, 1, 0, 0, 0);
        x.bring(c, 0, 8000);
        dueSuite(x, c, 1, 3, 0, 0);
        x.bring(c, 1, 8000);
        dueSuite(x, c, 0, 3, 0, 0);
        x.bring(c, 0, 8000);
        dueSuite(x, c, 1, 3, 3, 2);
        while (x.told(c, 0, 13) < 4) {
            x.bring(c, 1, 1);
        }
        Check.due("behind RETRY, ANSWER, SEALED BEGINNING, CHAIN", x.told(c, 0, 12), 1);
        dueSuite(x, c, 0, 3, 3, 0);
        while (x.told(c, 0, 13) < 5) {
            x.bring(c, 1, 1);
        }
        dueSuite(x, c, 0, 3, 3, 2);
        // with a SHARED secret: without SCHEME; without exchange: without GROUP
        SecureLines y = World.both();
        World.share(y, 0, "ab", 0, 6);
        World.share(y, 1, "ab", 0, 6);
        c = Stage.open(y);
        dueSuite(y, c, 0, 1, 1, 0);
        dueSuite(y, c, 1, 1, 1, 0);
        y.setting(0, 6, 1);
        y.setting(1, 6, 1);
        y.offer(1, 1, 2);
        y.offer(0, 1, 1);
        c = Stage.open(y);
        dueSuite(y, c, 0, 1, 0, 0);
        dueSuite(y, c, 1, 1, 0, 0);
    }

    private static void dueSuite(SecureLines x, int c, int side, int suite, int group, int scheme) {
        Check.due("SUITE", x.told(c, side, 1), suite);
        Check.due("GROUP", x.told(c, side, 2), group);
        Check.due("SCHEME", x.told(c, side, 3), scheme);
    }

    /** "10 number of the next RECORD to write, 11 to read (0 without a key)". */
    static void promise49_numbers() {
        SecureLines x = World.both();
        int c = x.connection(0, 1);
        Check.due("without a key", x.told(c, 0, 10) + x.told(c, 0, 11) + x.told(c, 1, 10) + x.told(c, 1, 11), 0);
        x.bring(c, 0, 8000);
        Check.due("behind its END the server writes by another key", x.told(c, 1, 10), 0);
        x.bring(c, 1, 8000);
        Check.due("the client reads by another key", x.told(c, 0, 11), 0);
        Check.due("behind its END the client writes by another key", x.told(c, 0, 10), 0);
        x.bring(c, 0, 8000);
        Check.due("the server reads by another key", x.told(c, 1, 11), 0);
        Check.due("it wrote a TICKET", x.told(c, 1, 10), 1);
        x.bring(c, 1, 8000);
        Check.due("the client read it", x.told(c, 0, 11), 1);
        for (int i = 1; i <= 40; i++) {
            x.feed(1, i);
            x.say(c, 0);
            Check.due("written", x.told(c, 0, 10), i);
            Check.due("not read yet", x.told(c, 1, 11), i - 1);
            x.bring(c, 0, 8000);
            Check.due("read", x.told(c, 1, 11), i);
        }
        x.close(c, 0);
        Check.due("an ALERT is one", x.told(c, 0, 10), 41);
        World.carry(x, c);
        Check.due("read", x.told(c, 1, 11), 41);
    }

    /** "12 how many CERTIFICATES the other side showed (in a CHAIN in which nothing was wrong)": 0, 1, 4; none in a wrong one. */
    static void promise49_shown() {
        byte[][] line = new byte[4][];
        for (int i = 0; i < 4; i++) {
            String issuer = i == 3 ? "root" : "n" + (i + 1);
            line[i] = new Cert("n" + i, issuer, 50 + i).serial(9 + i).office().by(i == 3 ? World.ROOT : 51 + i);
        }
        for (int n = 0; n <= 4; n++) {
            Peer peer = Stage.asked(1);
            peer.send(11, Peer.chain(NONE, Arrays.copyOfRange(line, 4 - n, 4)));
            Check.due("of " + n, peer.told(12), n);
            Check.due("no ALERT", peer.told(6), -4);
        }
        Peer peer = Stage.asked(1);
        peer.send(11, Peer.chain(NONE, line[0], line[1], line[3]));
        Check.due("wrong", peer.told(6), 42);
        Check.due("none", peer.told(12), 0);
    }

    /** "13 how many MESSAGES came to it whole in which nothing was wrong": each counts when it is whole. */
    static void promise49_messages() {
        Peer peer = World.toClient(World.both());
        peer.suite = 1;
        peer.shorten();
        int[] count = {0};
        step(peer, count, 6, Own.bytes(1), Peer.field(3, Own.bytes(2)));
        peer.takeHello();
        Check.due("ahead of ANSWER", peer.told(13), 1);
        peer.answer(1, 7, -1, 0);
        count[0] = 2;
        step(peer, count, 8);
        step(peer, count, 13, Peer.field(5, Own.bytes(1)));
        step(peer, count, 11, Peer.chain(NONE, World.server()));
        step(peer, count, 15, peer.proof('S', 1, World.SERVER));
        peer.endAsServer();
        Check.due("END", peer.told(13), 7);
        peer.expect(11);
        peer.takeClientEnd();
        count[0] = 7;
        step(peer, count, 4, new byte[17]);
        peer.send(24, Own.bytes(0));
        Check.due("NEW KEYS", peer.told(13), 9);
        peer.writeBy(Own.derived(0, peer.writeKey, 'u', 0));
        peer.send(24, Own.bytes(2));
        Check.due("one in which something is wrong", peer.told(13), 9);
    }

    private static void step(Peer peer, int[] count, int type, byte[]... body) {
        byte[] message = Peer.message(type, body);
        peer.note(message);
        byte[] records = peer.records(message);
        peer.give(Own.part(records, 0, records.length - 1));
        Check.due("not whole: " + type, peer.told(13), count[0]);
        peer.give(Own.part(records, records.length - 1, records.length));
        count[0]++;
        Check.due("whole: " + type, peer.told(13), count[0]);
    }

    // ---- 50 key

    /** "BAD (which it may be)": no such side, the caller's, no such key. */
    static void promise50_refusals() {
        SecureLines x = three();
        for (int which = 0; which <= 7; which++) {
            Check.due("the caller, a client: " + which, x.key(1, 0, which), -1);
            Check.due("the caller, a server: " + which, x.key(2, 1, which), -1);
            Check.due("a server that greets: " + which, x.key(1, 1, which), 0);
            Check.due("a client that greets: " + which, x.key(2, 0, which), 0);
            Check.that("one that is open: " + which, x.key(0, 0, which) != 0);
        }
        int[] whiches = {-1, 8, Integer.MIN_VALUE, Integer.MAX_VALUE};
        for (int which : whiches) {
            Check.due("which " + which, x.key(0, 0, which), -1);
        }
        for (int c : NO_LINE) {
            Check.due("c " + c, x.key(c, 0, 0), -1);
        }
        for (int side : NO_SIDE) {
            Check.due("side " + side, x.key(0, side, 0), -1);
        }
    }

    /** "0 when it has it not yet": which of them a side has, at each place. */
    static void promise50_whenItHasThem() {
        SecureLines x = World.both();
        Peer peer = Stage.greeted(x);
        dueKeys("a server behind its END", peer, 1, 1, 1, 1, 1, 1, 0, 1);
        peer.endAsClient();
        dueKeys("a server behind the client's END", peer, 1, 1, 1, 1, 1, 1, 1, 1);
        Peer retried = World.toServer(World.both());
        retried.x.offer(1, 1, 2);
        retried.send(1, retried.helloBody(5, Peer.usualFields(1, 9), Peer.none()));
        dueKeys("a server behind RETRY", retried, 0, 0, 0, 0, 0, 0, 0, 1);
        dueKeys("a client behind HELLO", World.toClient(World.both()), 0, 0, 0, 0, 0, 0, 0, 0);
        dueKeys("a client behind ANSWER", Stage.answered(World.both()), 1, 1, 1, 1, 0, 0, 0, 1);
        dueKeys("a client behind PROOF", Stage.proven(World.both()), 1, 1, 1, 1, 0, 0, 0, 1);
        dueKeys("a client that is open", Stage.opened(World.both()), 1, 1, 1, 1, 1, 1, 1, 1);
        // with early bytes: a key for writing at once
        SecureLines y = World.both();
        Stage.ticketed(y, 400);
        y.feed(1, 5);
        y.early(0);
        Peer early = World.toClient(y);
        dueKeys("a client with early bytes", early, 1, 0, 0, 0, 0, 0, 0, 0);
        early.give(Own.bytes(22, 0, 11, 6, 0, 8, 1, 3, 0, 1, 2, 200, 0, 0));
        dueKeys("behind a RETRY with other FIELDS it ENDED", early, 1, 0, 0, 0, 0, 0, 0, 0);
    }

    /** "RETRY: .. it has no key for writing": its key for early bytes is none, and its number 0, till ANSWER. */
    static void promise50_behindRetryNoKey() {
        SecureLines x = World.both();
        Stage.ticketed(x, 400);
        World.tape(x, 201);
        x.early(0);
        Peer peer = World.toClient(x);
        Check.due("two RECORDS of early bytes", peer.told(10), 2);
        Check.that("a key for them", peer.key(0) != 0);
        peer.give(Own.bytes(22, 0, 8, 6, 0, 5, 1, 3, 0, 1, 2));
        Check.due("no ALERT", peer.told(6), -4);
        dueKeys("behind RETRY", peer, 0, 0, 0, 0, 0, 0, 0, 1);
        Check.due("no number", peer.told(10), 0);
    }

    private static void dueKeys(String when, Peer peer, int... due) {
        for (int which = 0; which < 8; which++) {
            Check.due(when + ": key " + which, peer.key(which) != 0 ? 1 : 0, due[which]);
        }
    }

    /** "a server that drops has the client's key 'c' for reading from ANSWER on". */
    static void promise50_aServerThatDrops() {
        SecureLines x = World.both();
        Peer peer = World.toServer(x);
        TreeMap<Integer, byte[]> fields = Peer.usualFields(1, 9);
        fields.put(8, NONE);
        peer.send(1, peer.helloBody(5, fields, Peer.none()));
        peer.give(Own.bytes(23, 0, 30), new byte[30]);
        Check.due("dropped", peer.told(14), 30);
        long reading = peer.key(1);
        peer.takeAnswer(9, 0);
        Check.due("'c'", reading, peer.clientKey);
    }

    /** "7 THE DIGEST of all up to now (ahead of its knowing the SUITE 0)": NEW KEYS and TICKETS are not in it. */
    static void promise50_theDigest() {
        Peer peer = Stage.opened(World.both());
        long digest = peer.key(7);
        Check.due("all up to now", digest, peer.digest());
        peer.send(4, new byte[17]);
        Check.due("behind a TICKET", peer.key(7), digest);
        peer.send(24, Own.bytes(1));
        Check.due("behind NEW KEYS of both", peer.key(7), digest);
        Peer server = Stage.served(World.both());
        Check.due("of a server that gave TICKETS", server.key(7), server.digest());
    }

    // ---- 51 export

    /** "BAD; 0: it has no EXPORT yet": THE TAPE stays with BAD, and is taken with 0. */
    static void promise51_refusals() {
        SecureLines x = three();
        x.feed(2, 0x0102);
        for (int c : NO_LINE) {
            Check.due("c " + c, x.export(c, 0), -1);
        }
        for (int side : NO_SIDE) {
            Check.due("side " + side, x.export(0, side), -1);
        }
        Check.due("the caller, a client", x.export(1, 0), -1);
        Check.due("the caller, a server", x.export(2, 1), -1);
        Check.due("THE TAPE stays", x.cut(2), 0);
        Check.due("a server that greets", x.export(1, 1), 0);
        Check.due("it took THE TAPE", x.cut(0), 0);
        x.feed(2, 0x0102);
        Check.due("a client that greets", x.export(2, 0), 0);
        Check.due("it took THE TAPE", x.cut(0), 0);
    }

    /** From no bytes to 800; h of the SUITE; also of a side that CLOSED or ENDED. */
    static void promise51_fromNothingTo800() {
        for (int suite = 1; suite <= 3; suite++) {
            SecureLines x = World.both();
            x.offer(0, 0, suite);
            int c = Stage.open(x);
            int h = Own.hashOf(suite);
            int[] counts = {0, 1, 7, 8, 9, 800};
            for (int n : counts) {
                for (int side = 0; side <= 1; side++) {
                    byte[] tape = World.tape(x, n);
                    Check.due("export of " + n, x.export(c, side), Own.derived(h, x.key(c, side, 5), 'y', Own.digest(h, tape)));
                    Check.due("it took THE TAPE", x.cut(0), 0);
                }
            }
            long due = Own.derived(h, x.key(c, 0, 5), 'y', Own.digest(h));
            x.close(c, 0);
            Check.due("one that CLOSED", x.export(c, 0), due);
            x.feed(3, 0xffffff);
            x.give(c, 1);
            Check.due("one that ENDED", x.export(c, 1), due);
        }
    }

    /** "from the server's END on": a server has it at once, a client when that END came. */
    static void promise51_fromTheServersEndOn() {
        Peer server = Stage.greeted(World.both());
        Check.due("a server that greets", server.x.export(server.c, 1), Own.derived(0, server.export, 'y', Own.digest(0)));
        Peer client = Stage.proven(World.both());
        Check.due("a client ahead of it", client.x.export(client.c, 0), 0);
        client.endAsServer();
        Check.due("a client behind it", client.x.export(client.c, 0), Own.derived(0, client.export, 'y', Own.digest(0)));
    }
}
