import java.util.Arrays;

/** Promises 40 and 42 to 44 at their bounds: CONNECTIONS, and the bytes that wait on their lines. */
public final class BoundsConnectionsTest {
    private static final int[] ODD = {-1, 12, Integer.MIN_VALUE, Integer.MAX_VALUE};
    private static final int[] NO_SIDE = {-1, 2, Integer.MIN_VALUE, Integer.MAX_VALUE};

    public static void main(String[] args) throws ReflectiveOperationException {
        Bounds.run(BoundsConnectionsTest.class);
    }

    // ---- 40 connection

    /** "BAD: roles; both -1". */
    static void promise40_roles() {
        SecureLines x = World.both();
        int[][] bad = {{-1, -1}, {1, 1}, {0, 0}, {1, 0}, {2, 1}, {0, 2}, {-2, 1}, {0, -2}, {-2, -1}, {-1, -2}, {1, -1}, {-1, 0}, {8, 1},
            {Integer.MIN_VALUE, 1}, {0, Integer.MIN_VALUE}, {Integer.MAX_VALUE, 1}, {0, Integer.MAX_VALUE}};
        for (int[] call : bad) {
            Check.due("connection" + Arrays.toString(call), x.connection(call[0], call[1]), -1);
        }
        Check.due("none was made", x.line(0, 0, -1), -1);
        Check.due("client and server", x.connection(0, 1), 0);
        Check.due("a client and the caller", x.connection(0, -1), 1);
        Check.due("the caller and a server", x.connection(-1, 1), 2);
    }

    /** "A CONNECTION (12)"; "BAD .. FULL". */
    static void promise40_twelve() {
        SecureLines x = World.both();
        for (int i = 0; i < 12; i++) {
            Check.due("connection", i % 3 == 0 ? x.connection(0, 1) : i % 3 == 1 ? x.connection(-1, 1) : x.connection(0, -1), i);
        }
        Check.due("the 13th", x.connection(0, 1), -3);
        Check.due("a RAW one", x.connection(-1, 1), -3);
        Check.due("BAD ahead of FULL", x.connection(-1, -1), -1);
        Check.due("BAD ahead of FULL", x.connection(1, 1), -1);
        Check.due("the last is there", x.line(11, 0, 0), 22);
        Check.due("no 13th is", x.line(12, 0, -1), -1);
    }

    /** A refused one draws nothing, and its client's early bytes are not gone. */
    static void promise40_refusedChangesNothing() {
        SecureLines x = World.both();
        Stage.ticketed(x, 400);
        for (int i = 1; i < 12; i++) {
            x.connection(-1, 1);
        }
        x.feed(8, 5);
        x.random(0);
        x.feed(2, 5);
        x.early(0);
        Check.due("FULL", x.connection(0, -1), -3);
        Check.due("nothing is drawn", x.random(0), 8);
        SecureLines y = World.both();
        Stage.ticketed(y, 400);
        y.feed(2, 5);
        y.early(0);
        Check.due("BAD", y.connection(0, 0), -1);
        Check.due("the early bytes go", y.told(y.connection(0, -1), 0, 10), 1);
    }

    /** "x, drawn behind RANDOM, is 2 and the FOUR of RANDOM bytes without its two highest bits". */
    static void promise40_theNumberOfAShare() {
        int[] fours = {0, 1, 0x3fffffff, 0x40000000, 0x7fffffff, 0x80000000, 0xc0000001, -1};
        for (int four : fours) {
            for (int group = 1; group <= 3; group++) {
                SecureLines x = World.both();
                x.offer(0, 1, group);
                World.random(x, 0, -1, (long) four << 32);
                Peer peer = World.toClient(x);
                Check.due("GROUP", peer.helloFields.get(4)[0], group);
                Check.due("its POINT", Own.fourOf(peer.helloFields.get(4), 1), Own.point(group, 2 + (four & 0x3fffffff)));
            }
        }
    }

    /** "SHARE, by SETTING 5": without it nothing is drawn behind RANDOM. */
    static void promise40_shareBySetting5() {
        SecureLines x = World.both();
        x.setting(0, 5, 0);
        World.random(x, 0, 1, 2);
        Check.that("no SHARE", !World.toClient(x).helloFields.containsKey(4));
        Check.due("eight bytes went", x.random(0), 8);
        x.setting(0, 5, 1);
        Check.that("SHARE", World.toClient(x).helloFields.containsKey(4));
        Check.due("all went", x.random(0), 0);
    }

    /** "if it has SHARED secrets whose h is that of one of its SUITES: MODES 2, or 3 by SETTING 6, and SHARED, these, in order". */
    static void promise40_sharedOfItsSuites() {
        int[] hashes = {0, 1, 0, 1, 1, 0};
        int[][] suites = {{1, 0}, {2, 0}, {3, 1}, {0x0102, 0}, {0x0103, 2}, {0x020103, 2}};
        for (int[] way : suites) {
            for (int without = 0; without <= 1; without++) {
                SecureLines x = World.both();
                x.offer(0, 0, way[0]);
                x.setting(0, 6, without);
                byte[] due = {};
                int count = 0;
                for (int i = 0; i < 6; i++) {
                    World.share(x, 0, "n" + i, hashes[i], i);
                    if (way[1] == 2 || hashes[i] == way[1]) {
                        due = Own.cat(due, Own.bytes(2, 'n', '0' + i, 0, 0, 0, 0));
                        count++;
                    }
                }
                Peer peer = World.toClient(x);
                Check.due("MODES", peer.helloFields.get(7)[0], 2 + without);
                byte[] shared = peer.helloFields.get(10);
                Check.due("how many", shared[0], count);
                Check.that("these, in order", Arrays.equals(Own.part(shared, 1, 1 + due.length), due));
                Check.due("BINDERS", shared.length, 1 + due.length + 8 * count);
            }
        }
        SecureLines y = World.both();
        World.share(y, 0, "a", 1, 5);
        y.offer(0, 0, 0x0102);
        Peer none = World.toClient(y);
        Check.that("none of them: no MODES, no SHARED", !none.helloFields.containsKey(7) && !none.helloFields.containsKey(10));
    }

    /** "age of a TICKET TIME less that at which it came, else 0". */
    static void promise40_ages() {
        SecureLines x = World.both();
        x.tick(1000);
        World.share(x, 0, "a", 0, 5);
        Stage.ticketed(x, 0);
        int[] steps = {0, 1, 254, 1, 1000000};
        int age = 0;
        for (int step : steps) {
            x.tick(step);
            age += step;
            byte[] shared = World.toClient(x).helloFields.get(10);
            Check.due("of no TICKET", Own.fourOf(shared, 3), 0);
            Check.due("of the TICKET", Own.fourOf(shared, 16), age);
        }
    }

    /** "EARLY, if it was given early bytes, and the first of these is a TICKET that allows as many". */
    static void promise40_asManyEarlyBytes() {
        int[][] ways = {{0, 0, 0}, {0, 1, 0}, {1, 0, 0}, {1, 1, 1}, {1, 2, 0}, {399, 400, 0}, {400, 400, 1}, {400, 399, 1}, {-1, 1, 0},
            {Integer.MIN_VALUE, 1, 0}, {Integer.MAX_VALUE, 400, 1}};
        for (int[] way : ways) {
            SecureLines x = World.both();
            Stage.ticketed(x, way[0]);
            World.tape(x, way[1]);
            x.early(0);
            Peer peer = World.toClient(x);
            String what = way[1] + " of " + way[0];
            Check.due(what, peer.helloFields.containsKey(8) ? 1 : 0, way[2]);
            Check.due(what + ": RECORDS", peer.told(10), way[2] * (way[1] + 199) / 200);
        }
        // another secret is the first of these, or would be but for its h
        for (int h = 0; h <= 1; h++) {
            SecureLines x = World.both();
            World.share(x, 0, "a", h, 5);
            Stage.ticketed(x, 400);
            x.offer(0, 0, 1);
            x.feed(1, 7);
            x.early(0);
            Check.due("behind one of h " + h, World.toClient(x).helloFields.containsKey(8) ? 1 : 0, h);
        }
    }

    /** "then the early bytes follow, in RECORDS of 200". */
    static void promise40_earlyBytesInRecordsOf200() {
        int[] counts = {1, 199, 200, 201, 399, 400};
        for (int n : counts) {
            SecureLines x = World.both();
            Peer first = Stage.ticketed(x, 400);
            byte[] due = World.tape(x, n);
            x.early(0);
            Peer peer = World.toClient(x);
            peer.suite = 1;
            peer.readBy(Own.derived(0, Own.keyed(0, 0, Own.secret(Own.derived(0, first.next, 't', 0))), 'e', peer.digest()));
            byte[] got = {};
            for (int left = n; left > 0; left -= 200) {
                byte[] text = peer.nextRecord();
                Check.due("a RECORD", text.length, Math.min(left, 200) + 1);
                Check.due("bytes that are said", text[text.length - 1], 23);
                got = Own.cat(got, Own.part(text, 0, text.length - 1));
            }
            Check.that("the early bytes", Arrays.equals(got, due));
            Check.that("no more", peer.nextRecord() == null);
        }
    }

    // ---- 42 bring

    /** "n bytes (1 .. 8000 ..)"; "BAD". */
    static void promise42_n() {
        SecureLines x = World.both();
        int c = x.connection(0, 1);
        int waits = x.line(c, 0, -1);
        int[] bad = {0, -1, 8001, Integer.MIN_VALUE, Integer.MAX_VALUE};
        for (int n : bad) {
            Check.due("n " + n, x.bring(c, 0, n), -1);
        }
        for (int odd : ODD) {
            Check.due("c " + odd, x.bring(odd, 0, 1), -1);
        }
        for (int side : NO_SIDE) {
            Check.due("side " + side, x.bring(c, side, 1), -1);
        }
        Check.due("nothing went", x.line(c, 0, -1), waits);
        Check.due("n 1", x.bring(c, 0, 1), 1);
        Check.due("one went", x.line(c, 0, -1), waits - 1);
        Check.due("n 8000", x.bring(c, 0, 8000), waits - 1);
        Check.due("all went", x.line(c, 0, -1), 0);
        Check.due("it came", x.told(c, 1, 13), 1);
    }

    /** "fewer, if fewer wait": one fewer, as many, one more; none. */
    static void promise42_fewerIfFewerWait() {
        for (int more = -1; more <= 1; more++) {
            SecureLines x = World.both();
            int c = x.connection(0, 1);
            int waits = x.line(c, 0, -1);
            Check.due("nothing waits", x.bring(c, 1, 8000), 0);
            Check.due("bring", x.bring(c, 0, waits + more), waits + Math.min(more, 0));
            Check.due("it came whole", x.told(c, 1, 13), more < 0 ? 0 : 1);
            Check.due("the rest", x.bring(c, 0, 8000), more < 0 ? 1 : 0);
            Check.due("it came whole then", x.told(c, 1, 13), 1);
        }
    }

    /** "To the caller (the first 800 at most): they become OUT": n below, as many, more. */
    static void promise42_toTheCaller800() {
        for (int waits = 799; waits <= 802; waits++) {
            SecureLines x = World.both();
            int c = clientWith(x, waits);
            Check.due("they wait", x.line(c, 0, -1), waits);
            byte[] due = new byte[waits];
            for (int i = 0; i < waits; i++) {
                due[i] = (byte) x.line(c, 0, i);
            }
            int got = x.bring(c, 0, 8000);
            Check.due("bring", got, Math.min(waits, 800));
            Check.out("they become OUT", x, Own.part(due, 0, got));
            Check.due("the rest waits", x.line(c, 0, -1), waits - got);
            Check.due("the rest", x.bring(c, 0, 800), waits - got);
            Check.out("it becomes OUT", x, Own.part(due, got, waits));
        }
        SecureLines y = World.both();
        int c = clientWith(y, 900);
        Check.due("799 of 900", y.bring(c, 0, 799), 799);
        Check.due("101 wait", y.line(c, 0, -1), 101);
        Check.due("OUT", y.out(-1), 799);
    }

    /** An open client of a RAW CONNECTION on whose line so many bytes wait. */
    private static int clientWith(SecureLines x, int n) {
        Peer peer = Stage.opened(x);
        peer.fetch();
        // RECORDS of 200 take 212, and what is left 12 more
        int said = n - 12 * ((n + 211) / 212);
        World.say(x, peer.c, 0, said);
        return peer.c;
    }

    /** Nothing waits: 0, and OUT is of no bytes; of the caller's own line nothing ever waits. */
    static void promise42_nothingWaits() {
        SecureLines x = World.both();
        int c = x.connection(0, -1);
        x.seal(1, 1, 1, 0);
        int waits = x.line(c, 0, -1);
        Check.due("the caller's", x.bring(c, 1, 8000), 0);
        Check.due("OUT stays", x.out(-1), 8);
        Check.due("to the caller", x.bring(c, 0, 8000), waits);
        Check.due("OUT", x.out(-1), waits);
        Check.due("nothing more", x.bring(c, 0, 1), 0);
        Check.due("OUT is of none", x.out(-1), 0);
        Check.due("the client got nothing", x.told(c, 0, 0), 0);
    }

    /** "FULL: above 4000 bytes wait on the other one's line": 4000 is not above. */
    static void promise42_above4000() {
        for (int said = 1999; said <= 2001; said++) {
            SecureLines x = World.both();
            int c = Stage.open(x);
            World.say(x, c, 1, said - 12 * ((said + 211) / 212));
            Check.due("they wait", x.line(c, 1, -1), said);
            for (int i = 0; i < 126; i++) {
                Check.due("renew", x.renew(c, 0, 1), 1);
            }
            Check.due("bring", x.bring(c, 0, 2000), 2000);
            Check.due("as many are put", x.line(c, 1, -1), said + 2000);
            int due = said <= 2000 ? 16 : -3;
            Check.due("BAD ahead of FULL", x.bring(c, 0, 0), -1);
            Check.due("bring", x.bring(c, 0, 8000), due);
            Check.due("what waits", x.line(c, 0, -1), due == 16 ? 0 : 16);
            Check.due("FULL though nothing waits", x.bring(c, 0, 1), -3);
            Check.due("the other way", x.bring(c, 1, 8000), said + 2000 + (due == 16 ? 16 : 0));
        }
    }

    /** FULL is asked of the side to which they are brought alone: to the caller it never is. */
    static void promise42_fullOfTheOtherOne() {
        SecureLines x = World.both();
        int c = Stage.open(x);
        World.say(x, c, 1, 1880);
        for (int i = 0; i < 126; i++) {
            x.renew(c, 0, 1);
        }
        x.bring(c, 0, 8000);
        Check.due("above 4000 wait", x.line(c, 1, -1), 4016);
        Check.due("of the server itself it is not asked", x.bring(c, 1, 1), 1);
        Check.due("nor where nothing waits", x.bring(c, 1, 14), 14);
        Check.due("4001 wait", x.line(c, 1, -1), 4001);
        Check.due("FULL", x.bring(c, 0, 1), -3);
        Check.due("one goes", x.bring(c, 1, 1), 1);
        Check.due("4000 wait", x.bring(c, 0, 1), 0);
    }

    /** What comes to one that ENDED is lost: it goes from the line, and is counted. */
    static void promise42_toOneThatEnded() {
        SecureLines x = World.both();
        int c = x.connection(0, 1);
        x.feed(4, 0x15000105L);
        x.give(c, 1);
        Check.due("ENDED", x.told(c, 1, 0), 2);
        int waits = x.line(c, 0, -1);
        Check.due("bring", x.bring(c, 0, 8000), waits);
        Check.due("they are gone", x.line(c, 0, -1), 0);
        Check.due("lost", x.told(c, 1, 13), 0);
        Check.due("nothing is put", x.line(c, 1, -1), 0);
    }

    // ---- 43 line

    /** "i = -1: how many. BAD." */
    static void promise43_fromMinus1ToTheLast() {
        SecureLines x = World.both();
        int c = x.connection(0, 1);
        int waits = x.line(c, 0, -1);
        Check.due("the first", x.line(c, 0, 0), 22);
        Check.that("the last", x.line(c, 0, waits - 1) >= 0);
        int[] bad = {waits, waits + 1, -2, Integer.MIN_VALUE, Integer.MAX_VALUE};
        for (int i : bad) {
            Check.due("line i " + i, x.line(c, 0, i), -1);
        }
        Check.due("none: how many", x.line(c, 1, -1), 0);
        Check.due("none: the first", x.line(c, 1, 0), -1);
        for (int odd : ODD) {
            Check.due("c " + odd, x.line(odd, 0, -1), -1);
        }
        for (int side : NO_SIDE) {
            Check.due("side " + side, x.line(c, side, -1), -1);
        }
        for (int left = waits; left > 0; left--) {
            Check.due("how many", x.line(c, 0, -1), left);
            Check.due("no more", x.line(c, 0, left), -1);
            x.bring(c, 0, 1);
        }
        Check.due("none is left", x.line(c, 0, -1), 0);
    }

    /** "(on the caller's none do)". */
    static void promise43_theCallers() {
        SecureLines x = World.both();
        int client = x.connection(0, -1);
        int server = x.connection(-1, 1);
        Check.due("as server", x.line(client, 1, -1), 0);
        Check.due("as client", x.line(server, 0, -1), 0);
        Check.due("as server, byte 0", x.line(client, 1, 0), -1);
        Check.due("as client, byte 0", x.line(server, 0, 0), -1);
        Check.due("i -2", x.line(server, 0, -2), -1);
    }

    // ---- 44 alter

    /** "Byte i of those is xored with a mask (1 .. 255): what it is. BAD." */
    static void promise44_iAndMask() {
        SecureLines x = World.both();
        int c = x.connection(0, 1);
        int waits = x.line(c, 0, -1);
        int[] masks = {0, 256, -1, Integer.MIN_VALUE, Integer.MAX_VALUE};
        for (int mask : masks) {
            Check.due("mask " + mask, x.alter(c, 0, 0, mask), -1);
        }
        int[] bad = {-1, waits, Integer.MIN_VALUE, Integer.MAX_VALUE};
        for (int i : bad) {
            Check.due("i " + i, x.alter(c, 0, i, 1), -1);
        }
        for (int odd : ODD) {
            Check.due("c " + odd, x.alter(odd, 0, 0, 1), -1);
        }
        for (int side : NO_SIDE) {
            Check.due("side " + side, x.alter(c, side, 0, 1), -1);
        }
        Check.due("where none waits", x.alter(c, 1, 0, 1), -1);
        Check.due("it is as it was", x.line(c, 0, 0), 22);
        Check.due("mask 1", x.alter(c, 0, 0, 1), 23);
        Check.due("mask 255", x.alter(c, 0, 0, 255), 23 ^ 255);
        Check.due("mask 128", x.alter(c, 0, 0, 128), 23 ^ 127);
        Check.due("it stays so", x.line(c, 0, 0), 23 ^ 127);
        int last = x.line(c, 0, waits - 1);
        Check.due("the last", x.alter(c, 0, waits - 1, 255), last ^ 255);
        Check.due("as many wait", x.line(c, 0, -1), waits);
    }

    /** On the caller's line none wait: BAD. */
    static void promise44_theCallers() {
        SecureLines x = World.both();
        Check.due("as client", x.alter(x.connection(-1, 1), 0, 0, 1), -1);
        Check.due("as server", x.alter(x.connection(0, -1), 1, 0, 1), -1);
    }

    /** What was altered comes so. */
    static void promise44_whatComes() {
        SecureLines x = World.both();
        int c = x.connection(0, 1);
        x.alter(c, 0, 0, 2);
        x.bring(c, 0, 2);
        Check.due("two bytes are not looked at", x.told(c, 1, 6), -4);
        x.bring(c, 0, 1);
        Check.due("a kind that is none", x.told(c, 1, 6), 10);
    }
}
