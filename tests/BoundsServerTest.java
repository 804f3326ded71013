import java.util.Arrays;
import java.util.List;
import java.util.TreeMap;
import java.util.function.Consumer;

/** Promise 41 at its bounds: what comes to a server. */
public final class BoundsServerTest {
    private static final byte[] NONE = {};
    private static final String FORTY = "abcdefghijklmnopqrstuvwxyz0123456789-a.c";

    public static void main(String[] args) throws ReflectiveOperationException {
        Bounds.run(BoundsServerTest.class);
    }

    private static Peer fresh() {
        return World.toServer(World.both());
    }

    private static Peer greeted() {
        return Stage.greeted(World.both());
    }

    // ---- give

    /** "BAD; NO: that side is the caller": THE TAPE stays. */
    static void promise41_cAndSide() {
        SecureLines x = World.both();
        int server = x.connection(-1, 1);
        int client = x.connection(0, -1);
        x.feed(2, 5);
        int[] odd = {2, -1, 12, Integer.MIN_VALUE, Integer.MAX_VALUE};
        for (int c : odd) {
            Check.due("c " + c, x.give(c, 1), -1);
        }
        int[] sides = {-1, 2, Integer.MIN_VALUE, Integer.MAX_VALUE};
        for (int side : sides) {
            Check.due("side " + side, x.give(server, side), -1);
        }
        Check.due("the caller is the client", x.give(server, 0), -2);
        Check.due("the caller is the server", x.give(client, 1), -2);
        Check.due("THE TAPE stays", x.cut(2), 0);
        Check.due("give", x.give(server, 1), 0);
        Check.due("it took THE TAPE", x.cut(0), 0);
        Check.due("nothing", x.give(server, 1), 0);
    }

    /** "FULL: above 2000 wait there ahead of it": 2000 is not above. */
    static void promise41_above2000() {
        for (int waits = 1999; waits <= 2002; waits++) {
            SecureLines x = World.both();
            int c = Stage.open(x);
            World.say(x, c, 1, waits - 120);
            Check.due("they wait", x.line(c, 1, -1), waits);
            x.feed(4, 0x15000105L);
            Check.due("give", x.give(c, 1), waits <= 2000 ? waits + 3 + 1 + 1 + 8 : -3);
            Check.due("THE TAPE then", x.cut(0), waits <= 2000 ? 0 : 4);
            Check.due("it came", x.told(c, 1, 6), waits <= 2000 ? 10 : -4);
            Check.due("NO and BAD ahead of FULL", x.give(c, 2), -1);
        }
    }

    /** "how many bytes of that side wait on its line then". */
    static void promise41_howManyWait() {
        Peer peer = fresh();
        Own.feed(peer.x, peer.records(Stage.hello(peer)));
        int got = peer.x.give(peer.c, 1);
        Check.due("what is answered waits", got, peer.x.line(peer.c, 1, -1));
        Check.that("more than nothing", got > 0);
        Check.due("give nothing", peer.x.give(peer.c, 1), got);
    }

    // ---- RECORDS

    /** "10 a kind that is none .. as soon as it has three bytes". */
    static void promise41_kindsOfRecords() {
        for (int kind = 0; kind < 256; kind++) {
            boolean one = kind >= 21 && kind <= 23;
            Peer peer = fresh();
            Stage.given("kind " + kind + ", two bytes", peer, 0, Own.bytes(kind, 0));
            Stage.given("kind " + kind + ", three bytes", peer, one ? 0 : 10, Own.bytes(9));
        }
    }

    /** "22 more than 300 bytes .. as soon as it has three bytes"; a kind that is none is told ahead of it. */
    static void promise41_300Bytes() {
        int[] sizes = {299, 300, 301, 302, 556, 557, 65535};
        for (int size : sizes) {
            for (int kind = 21; kind <= 23; kind++) {
                Stage.given("kind " + kind + " of " + size, fresh(), size > 300 ? 22 : 0, Own.bytes(kind), Own.two(size));
                Stage.given("with keys " + kind + " of " + size, greeted(), size > 300 ? 22 : 0, Own.bytes(kind), Own.two(size));
            }
            Stage.given("kind 20 of " + size, fresh(), 10, Own.bytes(20), Own.two(size));
        }
        Stage.given("300 bytes of a message", fresh(), 0, Own.bytes(22, 1, 44), Own.part(Peer.message(99, new byte[2000]), 0, 300));
    }

    /** "10 kind 23 without a key for reading"; "21, 22 with one": as soon as the RECORD is whole. */
    static void promise41_kindsByKey() {
        Peer peer = fresh();
        Stage.given("23 of two bytes, one came", peer, 0, Own.bytes(23, 0, 2, 1));
        Stage.given("both came", peer, 10, Own.bytes(1));
        peer = greeted();
        Stage.given("22 of two bytes, one came", peer, 0, Own.bytes(22, 0, 2, 1));
        Stage.given("both came", peer, 10, Own.bytes(1));
        peer = greeted();
        Stage.given("21 of one byte, none came", peer, 0, Own.bytes(21, 0, 1));
        Stage.given("it came", peer, 10, Own.bytes(5));
        Check.due("it is no ALERT that was got", peer.told(7), -4);
    }

    /** "then 50 no bytes, or of 21 not one byte": behind what is told of kinds. */
    static void promise41_noBytes() {
        Stage.given("22 of none", fresh(), 50, Own.bytes(22, 0, 0));
        Stage.given("21 of none", fresh(), 50, Own.bytes(21, 0, 0));
        Stage.given("21 of two", fresh(), 50, Own.bytes(21, 0, 2, 0, 0));
        Stage.given("21 of 300", fresh(), 50, Own.bytes(21, 1, 44), new byte[300]);
        Stage.given("21 of two, one came", fresh(), 0, Own.bytes(21, 0, 2, 0));
        Stage.given("23 of none without a key", fresh(), 10, Own.bytes(23, 0, 0));
        Stage.given("22 of none with a key", greeted(), 10, Own.bytes(22, 0, 0));
        Stage.given("21 of none with a key", greeted(), 10, Own.bytes(21, 0, 0));
        Stage.given("21 of two with a key", greeted(), 10, Own.bytes(21, 0, 2, 0, 0));
        Stage.given("23 of none with a key", greeted(), 50, Own.bytes(23, 0, 0));
        Stage.given("22 of one", fresh(), 0, Own.bytes(22, 0, 1, 1));
    }

    /** "ALERTS are a byte": 0 CLOSES; another one, from 1 to 255, ENDS. */
    static void promise41_alerts() {
        for (int alert = 0; alert < 256; alert++) {
            Peer peer = fresh();
            peer.give(Own.bytes(21, 0, 1, alert));
            Check.due("got " + alert, peer.told(7), alert);
            Check.due("ENDED by " + alert, peer.told(0), alert == 0 ? 0 : 2);
            Check.due("CLOSED by " + alert, peer.told(9), alert == 0 ? 1 : 0);
            Check.due("none is put", peer.told(6), -4);
            Check.due("nothing waits", peer.x.line(peer.c, 1, -1), 0);
        }
    }

    /** "A RECORD 23 that does not open (shorter than a TAG and one byte, or its TAG is another one): 20". */
    static void promise41_doesNotOpen() {
        for (int suite = 1; suite <= 3; suite++) {
            TreeMap<Integer, byte[]> fields = Peer.usualFields(1, 9);
            fields.put(2, Own.bytes(suite));
            int tag = Own.tagSize(suite);
            int[] sizes = {1, tag - 1, tag};
            for (int size : sizes) {
                Peer peer = Stage.greeted(World.both(), fields);
                Stage.given("of " + size, peer, 20, Own.bytes(23, 0, size), new byte[size]);
            }
            Peer peer = Stage.greeted(World.both(), fields);
            byte[] alone = peer.sealed(NONE);
            Check.due("a TAG alone", alone.length, 3 + tag);
            Stage.given("a TAG alone, that is right", peer, 20, alone);
            peer = Stage.greeted(World.both(), fields);
            byte[] least = peer.sealed(Own.bytes(21));
            Stage.given("a TAG and one byte: it opens", peer, 50, least);
            Check.due("it was read", peer.told(11), 1);
            for (int at = 0; at < tag; at++) {
                peer = Stage.greeted(World.both(), fields);
                byte[] record = peer.record(22, Own.bytes(20));
                record[record.length - tag + at] ^= 128;
                Stage.given("byte " + at + " of the TAG is another one", peer, 20, record);
                Check.due("it was not read", peer.told(11), 0);
            }
            peer = Stage.greeted(World.both(), fields);
            byte[] shorter = peer.record(22, Own.bytes(20, 0));
            shorter[2]--;
            Stage.given("its length is data", peer, 20, Own.part(shorter, 0, shorter.length - 1));
        }
    }

    /** The greatest RECORD 23: 300 bytes. */
    static void promise41_aSealedRecordOf300() {
        Peer peer = Stage.served(World.both());
        byte[] record = peer.record(23, Own.rowOf(291, 7));
        Check.due("of 300", record.length, 303);
        Stage.given("of 300", peer, 0, record);
        for (int i = 0; i < 291; i++) {
            Check.due("heard", peer.x.hear(peer.c, 1), 7);
        }
        Check.due("no more", peer.x.hear(peer.c, 1), -10);
        Stage.given("of 301", peer, 22, peer.record(23, Own.rowOf(292, 7)));
    }

    /** "What it bears goes by its last byte: 21 .. (50 not one byte), 22, 23; 10 others". */
    static void promise41_lastByte() {
        for (int kind = 0; kind < 256; kind++) {
            Peer peer = Stage.served(World.both());
            int due = kind == 21 ? 50 : kind == 22 || kind == 23 ? 0 : 10;
            Stage.given("kind " + kind + " inside, two bytes", peer, due, peer.sealed(Own.bytes(0, 0, kind)));
            peer = Stage.served(World.both());
            due = kind == 21 || kind == 22 ? 50 : kind == 23 ? 0 : 10;
            Stage.given("kind " + kind + " inside, no bytes", peer, due, peer.sealed(Own.bytes(kind)));
        }
        Peer peer = Stage.served(World.both());
        Stage.given("an ALERT of 0", peer, 0, peer.sealed(Own.bytes(0, 21)));
        Check.due("CLOSED", peer.told(9), 1);
        peer = Stage.served(World.both());
        Stage.given("an ALERT of 255", peer, 0, peer.sealed(Own.bytes(255, 21)));
        Check.due("ENDED", peer.told(0), 2);
    }

    /** "Said bytes: 10 while the side may not get such (.. a server ahead of the client's END ..)": none of them, too. */
    static void promise41_saidTooEarly() {
        for (int n = 0; n <= 1; n++) {
            Peer peer = greeted();
            Stage.given(n + " said ahead of END", peer, 10, peer.record(23, new byte[n]));
            Check.due("not heard", peer.x.hear(peer.c, 1), -12);
            peer = Stage.asked(1);
            Stage.given(n + " said ahead of CHAIN", peer, 10, peer.record(23, new byte[n]));
            peer = Stage.served(World.both());
            Stage.given(n + " said behind END", peer, 0, peer.record(23, new byte[n]));
            Check.due("heard", peer.x.hear(peer.c, 1), n == 1 ? 0 : -10);
        }
    }

    /** "WHAT COMES to a side is handled RECORD by RECORD": byte by byte it is the same as at once. */
    static void promise41_byteByByte() {
        Peer peer = fresh();
        byte[] hello = peer.records(Stage.hello(peer));
        for (int i = 0; i < hello.length; i++) {
            Check.due("not whole yet", peer.told(13), 0);
            peer.give(Own.part(hello, i, i + 1));
        }
        Check.due("whole", peer.told(13), 1);
    }

    /** Behind an ALERT, what comes in the same bytes is lost. */
    static void promise41_lostBehindTheEnd() {
        Peer peer = fresh();
        peer.give(Own.bytes(21, 0, 1, 0), Own.bytes(9, 9, 9));
        Check.due("behind CLOSED", peer.told(6), -4);
        peer = fresh();
        peer.give(Own.bytes(21, 0, 1, 1), Own.bytes(9, 9, 9));
        Check.due("behind ENDED by the other one", peer.told(6), -4);
        peer = fresh();
        peer.give(Own.bytes(9, 9, 9), Own.bytes(21, 0, 1, 1));
        Check.due("behind ENDED by itself", peer.told(7), -4);
        Check.due("its ALERT", peer.told(6), 10);
    }

    // ---- MESSAGES

    /** "50 a BODY above 2500 bytes (as soon as that is told)". */
    static void promise41_aBodyOf2500() {
        int[] sizes = {2499, 2500, 2501, 2502, 65535};
        for (int size : sizes) {
            Peer peer = fresh();
            Stage.given("two bytes of one of " + size, peer, 0, Own.bytes(22, 0, 2, 1), Own.part(Own.two(size), 0, 1));
            Stage.given("three bytes of one of " + size, peer, size > 2500 ? 50 : 0, Own.bytes(22, 0, 1), Own.part(Own.two(size), 1, 2));
        }
        Peer peer = fresh();
        byte[] whole = peer.records(Peer.message(1, Own.cat(Own.secret(1), Peer.field(1, new byte[2500 - 8 - 3]))));
        Stage.given("of 2500, a byte lacks", peer, 0, Own.part(whole, 0, whole.length - 1));
        Stage.given("of 2500, whole", peer, 70, Own.part(whole, whole.length - 1, whole.length));
    }

    /** "when it is whole: 10 a type that may not come now". */
    static void promise41_types() {
        for (int type = 0; type < 256; type++) {
            Peer peer = fresh();
            Stage.given("type " + type + ", not whole", peer, 0, Own.bytes(22, 0, 3, type, 0, 1));
            Stage.given("type " + type + ", whole", peer, type == 1 ? 50 : 10, Own.bytes(22, 0, 1, 0));
            peer = greeted();
            Stage.given("type " + type + " for END", peer, type == 20 ? 50 : 10, peer.record(22, Own.bytes(type, 0, 0)));
            peer = Stage.asked(1);
            Stage.given("type " + type + " for CHAIN", peer, type == 11 ? 50 : 10, peer.record(22, Own.bytes(type, 0, 0)));
            peer = Stage.served(World.both());
            Stage.given("type " + type + " then", peer, type == 24 ? 50 : 10, peer.record(22, Own.bytes(type, 0, 0)));
        }
    }

    /** "11, 15 (not behind n = 0) if it asked; 20". */
    static void promise41_proofBehindChain() {
        Peer peer = Stage.asked(1);
        peer.send(11, Own.bytes(0, 0, 0));
        Stage.given("PROOF behind n = 0", peer, 10, peer.record(22, Peer.message(15, peer.proof('C', 1, World.CLIENT))));
        peer = Stage.asked(1);
        peer.send(11, Own.bytes(0, 0, 0));
        peer.endAsClient();
        Check.due("END behind n = 0", peer.told(0), 1);
        peer = Stage.asked(1);
        peer.send(11, Peer.chain(NONE, World.client()));
        Stage.given("END behind n = 1", peer, 10, peer.record(22, Peer.message(20, Own.secret(peer.end(peer.clientKey)))));
    }

    /** "10 bytes behind it, if behind it the key for reading changes": HELLO, END, NEW KEYS; and not behind CHAIN, PROOF. */
    static void promise41_bytesBehind() {
        for (int more = 0; more <= 1; more++) {
            int due = more == 0 ? 0 : 10;
            byte[] rest = new byte[more];
            Peer peer = fresh();
            Stage.given("behind HELLO", peer, due, peer.record(22, Own.cat(Stage.hello(peer), rest)));
            Check.due("HELLO counts", peer.told(13), 1 - more);
            peer = greeted();
            Stage.given("behind END", peer, due, peer.record(22, Own.cat(Peer.message(20, Own.secret(peer.end(peer.clientKey))), rest)));
            Check.due("END counts", peer.told(13), 2 - more);
            peer = Stage.served(World.both());
            Stage.given("behind NEW KEYS", peer, due, peer.record(22, Own.cat(Peer.message(24, Own.bytes(0)), rest)));
            Check.due("NEW KEYS count", peer.told(13), 3 - more);
            peer = Stage.asked(1);
            Stage.given("behind CHAIN", peer, 0, peer.record(22, Own.cat(Peer.message(11, Own.bytes(0, 0, 0)), rest)));
            Check.due("CHAIN counts", peer.told(13), 2);
            peer = Stage.asked(1);
            peer.send(11, Peer.chain(NONE, World.client()));
            Stage.given("behind PROOF", peer, 0, peer.record(22, Own.cat(Peer.message(15, peer.proof('C', 1, World.CLIENT)), rest)));
            Check.due("PROOF counts", peer.told(13), 3);
        }
        Peer peer = fresh();
        peer.x.offer(1, 1, 2);
        Stage.given("behind a HELLO that RETRY follows", peer, 0, peer.record(22, Own.cat(Stage.hello(peer), Own.bytes(1))));
        Check.due("it counts", peer.told(13), 1);
        peer = fresh();
        byte[] wrong = Peer.message(1, Own.secret(1));
        Stage.given("behind a HELLO in which something is wrong", peer, 70, peer.record(22, Own.cat(wrong, new byte[1])));
    }

    // ---- the form of HELLO

    private static void body(String what, int due, byte[]... rows) {
        Peer peer = fresh();
        Stage.given(what, peer, due, peer.records(Peer.message(1, rows)));
        Check.due(what + ": messages", peer.told(13), due == 0 ? 1 : 0);
    }

    private static final byte[] RANDOM = new byte[8];
    private static final byte[] VERSIONS = Peer.field(1, Own.bytes(4));

    /** "RANDOM, 8 bytes". */
    static void promise41_randomOfHello() {
        for (int n = 0; n <= 9; n++) {
            body("of " + n, n == 8 ? 70 : 50, new byte[n]);
        }
    }

    /** "FIELDS: a kind, TWO how many bytes, these": "one that goes beyond". */
    static void promise41_fieldsBeyond() {
        body("a kind alone", 50, RANDOM, Own.bytes(1));
        body("a byte of its length", 50, RANDOM, Own.bytes(1, 0));
        body("beyond by one", 50, RANDOM, Own.bytes(1, 0, 2, 4));
        body("not beyond", 109, RANDOM, Own.bytes(1, 0, 1, 4));
        body("another kind beyond", 50, RANDOM, Own.bytes(77, 0, 2, 4));
        body("another kind, not beyond", 70, RANDOM, Own.bytes(77, 0, 1, 4));
        body("another kind of none", 70, RANDOM, Own.bytes(77, 0, 0));
        body("beyond by 65535", 50, RANDOM, Own.bytes(1, 255, 255, 4));
    }

    /** Each FIELD's least and most: "whose bytes are not as told". */
    static void promise41_bytesOfFields() {
        for (int n = 0; n <= 2; n++) {
            int due = n == 0 ? 50 : 109;
            body("VERSIONS of " + n, due, RANDOM, Peer.field(1, Own.rowOf(n, 4)));
            body("SUITES of " + n, n == 0 ? 50 : 40, RANDOM, VERSIONS, Peer.field(2, Own.rowOf(n, 9)));
            body("GROUPS of " + n, due, RANDOM, VERSIONS, Peer.field(3, Own.rowOf(n, 1)));
            body("SCHEMES of " + n, due, RANDOM, VERSIONS, Peer.field(5, Own.rowOf(n, 1)));
            body("MODES of " + n, n == 1 ? 109 : 50, RANDOM, VERSIONS, Peer.field(7, Own.rowOf(n, 1)));
            body("EARLY of " + n, n == 0 ? 109 : 50, RANDOM, VERSIONS, Peer.field(8, new byte[n]));
            body("SHARE of " + (4 + n), n == 1 ? 109 : 50, RANDOM, VERSIONS, Peer.field(4, new byte[4 + n]));
            body("COOKIE of " + (7 + n), n == 1 ? 109 : 50, RANDOM, VERSIONS, Peer.field(9, new byte[7 + n]));
        }
        for (int modes = 0; modes < 256; modes++) {
            body("MODES " + modes, modes >= 1 && modes <= 3 ? 109 : 50, RANDOM, VERSIONS, Peer.field(7, Own.bytes(modes)));
        }
        String[] names = {"a", FORTY, "a.b"};
        String[] none = {"", "a" + FORTY, "a.", ".a", "*.a.b", "A"};
        for (String name : names) {
            body("HOST " + name, 109, RANDOM, VERSIONS, Peer.field(6, Own.text(name)));
        }
        for (String name : none) {
            body("HOST " + name, 50, RANDOM, VERSIONS, Peer.field(6, Own.text(name)));
        }
        body("VERSIONS of 2400", 109, RANDOM, Peer.field(1, Own.rowOf(2400, 4)));
    }

    /** "10 SHARED (n, 1 at least; n times: how long an id is, 1 .. 16, it, FOUR an age; n BINDERS of 8 bytes)". */
    static void promise41_formOfShared() {
        body("nothing", 50, RANDOM, VERSIONS, Peer.field(10));
        body("n 0", 50, RANDOM, VERSIONS, Peer.field(10, Own.bytes(0)));
        body("n 0 and bytes", 50, RANDOM, VERSIONS, Peer.field(10, Own.bytes(0), new byte[14]));
        for (int size = 0; size <= 18; size++) {
            boolean good = size >= 1 && size <= 16;
            byte[] one = Own.cat(Own.bytes(size), new byte[size + 4]);
            body("an id of " + size, good ? 109 : 50, RANDOM, VERSIONS, Peer.field(10, Own.bytes(1), one, new byte[8]));
            if (good) {
                body("a byte lacks", 50, RANDOM, VERSIONS, Peer.field(10, Own.bytes(1), one, new byte[7]));
                body("a byte more", 50, RANDOM, VERSIONS, Peer.field(10, Own.bytes(1), one, new byte[9]));
            }
        }
        byte[] id = Own.bytes(1, 7, 0, 0, 0, 0);
        body("n 2, one is there", 50, RANDOM, VERSIONS, Peer.field(10, Own.bytes(2), id, new byte[16]));
        body("n 1, two are there", 50, RANDOM, VERSIONS, Peer.field(10, Own.bytes(1), id, id, new byte[16]));
        body("n 2", 109, RANDOM, VERSIONS, Peer.field(10, Own.bytes(2), id, id, new byte[16]));
        body("the second id is of 0", 50, RANDOM, VERSIONS, Peer.field(10, Own.bytes(2), id, Own.bytes(0, 0, 0, 0, 0), new byte[16]));
        body("the last age is cut", 50, RANDOM, VERSIONS, Peer.field(10, Own.bytes(1, 1, 7, 0, 0, 0)));
        body("an id is cut", 50, RANDOM, VERSIONS, Peer.field(10, Own.bytes(1, 9, 7)));
        byte[] many = {};
        for (int i = 0; i < 170; i++) {
            many = Own.cat(many, id);
        }
        body("n 170", 109, RANDOM, VERSIONS, Peer.field(10, Own.bytes(170), many, new byte[8 * 170]));
        body("n 255, 170 are there", 50, RANDOM, VERSIONS, Peer.field(10, Own.bytes(255), many, new byte[8 * 170]));
    }

    /** "47 ahead of it, where kinds do not rise up to there, or one stands behind SHARED"; "a FIELD is looked at wholly ahead of the next". */
    static void promise41_kindsRise() {
        byte[] shared = Peer.field(10, Own.bytes(1, 1, 7, 0, 0, 0, 0), new byte[8]);
        body("falling", 47, RANDOM, Peer.field(2, Own.bytes(1)), VERSIONS);
        body("alike", 47, RANDOM, VERSIONS, VERSIONS);
        body("rising by one", 40, RANDOM, VERSIONS, Peer.field(2, Own.bytes(9)));
        body("0 first", 109, RANDOM, Peer.field(0), VERSIONS);
        body("0 twice", 47, RANDOM, Peer.field(0), Peer.field(0), VERSIONS);
        body("255 last", 109, RANDOM, VERSIONS, Peer.field(255));
        body("255 twice", 47, RANDOM, VERSIONS, Peer.field(255), Peer.field(255));
        body("11 behind SHARED", 47, RANDOM, VERSIONS, shared, Peer.field(11));
        body("255 behind SHARED", 47, RANDOM, VERSIONS, shared, Peer.field(255));
        body("a kind alone behind SHARED", 47, RANDOM, VERSIONS, shared, Own.bytes(11));
        body("11 without SHARED", 109, RANDOM, VERSIONS, Peer.field(11));
        body("47 ahead of its own 50", 47, RANDOM, VERSIONS, Own.bytes(1));
        body("47 ahead of its own bytes", 47, RANDOM, Peer.field(7, Own.bytes(1)), Peer.field(6));
        body("50 of an earlier one", 50, RANDOM, Peer.field(7), VERSIONS);
        body("50 of SHARED ahead of one behind it", 50, RANDOM, VERSIONS, Peer.field(10, Own.bytes(0)), Peer.field(11));
        body("47 ahead of a later 50", 47, RANDOM, Peer.field(2, Own.bytes(1)), VERSIONS, Peer.field(7));
    }

    // ---- what HELLO is refused for

    private static final Peer.Offered GOOD = new Peer.Offered(Own.text("ab"), 0, 6, 0);
    private static final Peer.Offered WRONG = new Peer.Offered(Own.text("ab"), 0, 7, 0);
    private static final Peer.Offered STRANGE = new Peer.Offered(Own.text("abc"), 0, 6, 0);

    private static SecureLines sharing() {
        SecureLines x = World.both();
        World.share(x, 1, "ab", 0, 6);
        return x;
    }

    private static Peer hello(String what, int due, SecureLines x, List<Peer.Offered> offered, byte[] behind,
            Consumer<TreeMap<Integer, byte[]>> change) {
        Peer peer = World.toServer(x);
        TreeMap<Integer, byte[]> fields = Peer.usualFields(1, 9);
        change.accept(fields);
        byte[] message = Peer.message(1, peer.helloBody(5, fields, offered));
        peer.note(message);
        Stage.given(what, peer, due, peer.records(Own.cat(message, behind)));
        Check.due(what + ": messages", peer.told(13), due == 0 ? 1 : 0);
        Check.due(what + ": SUITE", peer.told(1) == 0 ? 0 : 1, due == 0 ? 1 : 0);
        return peer;
    }

    /** Of what is wrong in HELLO the first told: one after another is mended. */
    static void promise41_orderOfRefusalsOfHello() {
        byte[] more = new byte[1];
        hello("70 ahead of all", 70, sharing(), Peer.of(WRONG), more, f -> f.clear());
        hello("109 no SUITES ahead of what follows", 109, sharing(), Peer.of(WRONG), more, f -> {
            f.clear();
            f.put(1, Own.bytes(4));
            f.put(3, Own.bytes(9));
        });
        hello("40 no SUITE ahead of 109 without MODES", 40, sharing(), Peer.of(WRONG), more, f -> {
            f.clear();
            f.put(1, Own.bytes(4));
            f.put(2, Own.bytes(9));
        });
        hello("109 without MODES ahead of 51, 40", 109, sharing(), Peer.of(WRONG), more, f -> f.put(3, Own.bytes(9)));
        hello("51 ahead of 109 no GROUPS", 51, sharing(), Peer.of(WRONG), more, f -> {
            f.put(7, Own.bytes(2));
            f.remove(3);
            f.remove(5);
        });
        hello("109 no GROUPS ahead of 40", 109, sharing(), Peer.of(STRANGE), more, f -> {
            f.put(7, Own.bytes(2));
            f.remove(3);
            f.put(5, Own.bytes(9));
        });
        hello("40 no GROUP ahead of 109 no SCHEMES", 40, sharing(), Peer.of(STRANGE), more, f -> {
            f.put(7, Own.bytes(2));
            f.put(3, Own.bytes(9));
            f.remove(5);
        });
        SecureLines none = new SecureLines();
        none.end(0);
        none.end(1);
        hello("109 no SCHEMES ahead of 40 no IDENTITY", 109, none, Peer.none(), more, f -> f.remove(5));
        hello("40 no IDENTITY ahead of 47", 40, none, Peer.none(), more, f -> f.put(4, Own.bytes(1, 0, 0, 0, 0)));
        hello("40 no SCHEME ahead of RETRY", 40, World.both(), Peer.none(), more, f -> {
            f.put(5, Own.bytes(0, 3, 255));
            f.remove(4);
        });
        hello("47 JOINT 0 ahead of 10", 47, World.both(), Peer.none(), more, f -> f.put(4, Own.bytes(1, 0, 0, 0, 1)));
        hello("10", 10, World.both(), Peer.none(), more, f -> { });
        hello("nothing", 0, World.both(), Peer.none(), NONE, f -> { });
    }

    /** "70 no VERSIONS, or no 4 in it"; "109 no SUITES"; "40 no SUITE in common": where they stand does not count. */
    static void promise41_versionsAndSuites() {
        hello("3 and 5", 70, World.both(), Peer.none(), NONE, f -> f.put(1, Own.bytes(3, 5)));
        hello("4 last", 0, World.both(), Peer.none(), NONE, f -> f.put(1, Own.bytes(3, 5, 4)));
        hello("4 first", 0, World.both(), Peer.none(), NONE, f -> f.put(1, Own.bytes(4, 255)));
        hello("SUITES 0 and 4", 40, World.both(), Peer.none(), NONE, f -> f.put(2, Own.bytes(0, 4)));
        Peer peer = hello("SUITE 3 last", 0, World.both(), Peer.none(), NONE, f -> f.put(2, Own.bytes(0, 4, 3)));
        Check.due("it", peer.told(1), 3);
        SecureLines x = World.both();
        x.offer(1, 0, 0x0201);
        peer = hello("the first of its own", 0, x, Peer.none(), NONE, f -> f.put(2, Own.bytes(3, 1, 2)));
        Check.due("it", peer.told(1), 2);
        hello("its own alone", 40, x, Peer.none(), NONE, f -> f.put(2, Own.bytes(3)));
        x.offer(1, 1, 0x0203);
        peer = hello("GROUP: the first of its own", 0, x, Peer.none(), NONE, f -> {
            f.put(3, Own.bytes(1, 3, 2));
            f.put(4, Own.cat(Own.bytes(2), Own.four(5)));
        });
        Check.due("it", peer.told(2), 2);
        x.offer(1, 2, 0x0201);
        peer = hello("SCHEME: the first of its own", 0, x, Peer.none(), NONE, f -> {
            f.put(5, Own.bytes(1, 2));
            f.put(4, Own.cat(Own.bytes(2), Own.four(5)));
        });
        Check.due("it", peer.told(3), 2);
    }

    /** "109 no GROUPS (but when it KNOWS one, and MODES is 1)": MODES 1, 2, 3, known or not, by SETTING 6. */
    static void promise41_noGroups() {
        for (int modes = 1; modes <= 3; modes++) {
            for (int known = 0; known <= 1; known++) {
                for (int without = 0; without <= 1; without++) {
                    SecureLines x = sharing();
                    x.setting(1, 6, without);
                    int due = known == 1 && modes == 1 ? without == 1 ? 0 : 40 : 109;
                    byte one = (byte) modes;
                    hello("MODES " + modes + ", known " + known + ", SETTING 6 " + without, due, x,
                        Peer.of(known == 1 ? GOOD : STRANGE), NONE, f -> {
                            f.remove(3);
                            f.put(7, Own.bytes(one));
                        });
                }
            }
        }
    }

    /** With exchange, without, or not used: MODES, a GROUP in common, SETTING 6. */
    static void promise41_whetherASecretIsUsed() {
        for (int modes = 1; modes <= 3; modes++) {
            for (int common = 0; common <= 1; common++) {
                for (int without = 0; without <= 1; without++) {
                    SecureLines x = sharing();
                    x.setting(1, 6, without);
                    boolean exchange = (modes & 2) != 0 && common == 1;
                    boolean alone = !exchange && (modes & 1) != 0 && without == 1;
                    int due = exchange || alone || common == 1 ? 0 : 40;
                    byte one = (byte) modes;
                    byte group = (byte) (common == 1 ? 1 : 9);
                    Peer peer = hello("MODES " + modes + ", common " + common + ", SETTING 6 " + without, due, x, Peer.of(GOOD), NONE, f -> {
                        f.put(3, Own.bytes(group));
                        f.put(7, Own.bytes(one));
                    });
                    Check.due("used", peer.told(4), exchange || alone ? 1 : 0);
                    Check.due("GROUP", peer.told(2), due == 0 && !alone ? 1 : 0);
                    Check.due("SCHEME", peer.told(3), due == 0 && !exchange && !alone ? 1 : 0);
                }
            }
        }
    }

    /** "40 no GROUP in common, without a SHARED secret used"; "(both without one used)". */
    static void promise41_withOneUsed() {
        hello("no SCHEMES", 0, sharing(), Peer.of(GOOD), NONE, f -> {
            f.put(7, Own.bytes(2));
            f.remove(5);
        });
        hello("no SCHEME in common", 0, sharing(), Peer.of(GOOD), NONE, f -> {
            f.put(7, Own.bytes(2));
            f.put(5, Own.bytes(9));
        });
        SecureLines x = new SecureLines();
        x.end(0);
        x.end(1);
        World.share(x, 1, "ab", 0, 6);
        hello("no IDENTITY", 0, x, Peer.of(GOOD), NONE, f -> f.put(7, Own.bytes(2)));
        x.setting(1, 6, 1);
        hello("no GROUP in common", 0, x, Peer.of(GOOD), NONE, f -> {
            f.put(7, Own.bytes(1));
            f.put(3, Own.bytes(9));
        });
    }

    /** "of those told, in order, the first that it KNOWS": the first of three, the second, the last, none. */
    static void promise41_theFirstThatItKnows() {
        for (int at = 0; at <= 3; at++) {
            Peer.Offered[] row = {STRANGE, STRANGE, STRANGE};
            if (at < 3) {
                row[at] = GOOD;
            }
            Peer peer = hello("known at " + at, 0, sharing(), Peer.of(row), NONE, f -> f.put(7, Own.bytes(2)));
            TreeMap<Integer, byte[]> fields = peer.takeAnswer(9, at < 3 ? 6 : 0);
            Check.due("used", peer.told(4), at < 3 ? 1 : 0);
            Check.due("CHOSEN", fields.containsKey(10) ? fields.get(10)[0] : -1, at < 3 ? at : -1);
            if (at < 3) {
                row[at] = WRONG;
                hello("its BINDER is another one", 51, sharing(), Peer.of(row), NONE, f -> f.put(7, Own.bytes(2)));
            }
        }
        hello("the BINDER of a second known one is not looked at", 0, sharing(), Peer.of(GOOD, WRONG), NONE, f -> f.put(7, Own.bytes(2)));
        hello("51 though MODES and SETTING 6 let it not be used", 51, sharing(), Peer.of(WRONG), NONE, f -> f.put(7, Own.bytes(1)));
    }

    /** "one of its own of this id and h of the SUITE (the first such)". */
    static void promise41_ofThisIdAndH() {
        SecureLines x = World.both();
        World.share(x, 1, "ab", 1, 5);
        World.share(x, 1, "a", 0, 4);
        World.share(x, 1, "ab", 0, 6);
        World.share(x, 1, "ab", 0, 7);
        Peer peer = hello("the third is the first such", 0, x, Peer.of(GOOD), NONE, f -> f.put(7, Own.bytes(2)));
        Check.due("used", peer.told(4), 1);
        hello("the fourth is not", 51, x, Peer.of(WRONG), NONE, f -> f.put(7, Own.bytes(2)));
        Peer.Offered other = new Peer.Offered(Own.text("ab"), 1, 5, 0);
        peer = hello("h 1 with SUITE 3", 0, x, Peer.of(other), NONE, f -> {
            f.put(2, Own.bytes(3));
            f.put(7, Own.bytes(2));
        });
        Check.due("used", peer.told(4), 1);
        Peer.Offered[] near = {new Peer.Offered(Own.text("abb"), 0, 6, 0), new Peer.Offered(Own.text("b"), 0, 6, 0),
            new Peer.Offered(Own.text("ac"), 0, 6, 0), new Peer.Offered(Own.bytes('a', 'b', 0), 0, 6, 0)};
        for (Peer.Offered one : near) {
            peer = hello("another id", 0, x, Peer.of(one), NONE, f -> f.put(7, Own.bytes(2)));
            Check.due("not used", peer.told(4), 0);
        }
    }

    // ---- TICKETS that a server KNOWS, and EARLY

    /** A TICKET that a server of these SETTINGS gave to the caller: its id and SECRET. */
    private static Peer.Offered ticketOf(SecureLines x, int age) {
        Peer first = Stage.served(x);
        byte[] ticket = first.expect(4);
        return new Peer.Offered(Own.part(ticket, 8, 16), 0, Own.derived(0, first.next, 't', 0), age);
    }

    private static Peer taking(SecureLines x, boolean early, Peer.Offered... offered) {
        Peer peer = World.toServer(x);
        TreeMap<Integer, byte[]> fields = Peer.usualFields(1, 9);
        fields.put(7, Own.bytes(2));
        if (early) {
            fields.put(8, NONE);
        }
        peer.send(1, peer.helloBody(5, fields, Peer.of(offered)));
        return peer;
    }

    /** "given not more than its LIFE ago": LIFE 0, 1, 60, 10000, at it and one minute later. */
    static void promise41_lifeOfATicket() {
        int[] lives = {0, 1, 60, 10000};
        for (int life : lives) {
            for (int more = -1; more <= 1; more++) {
                if (life + more >= 0) {
                    SecureLines x = World.both();
                    x.setting(1, 3, life);
                    Peer.Offered ticket = ticketOf(x, 0);
                    x.setting(1, 3, 10000 - life);
                    x.tick(life + more);
                    Peer peer = taking(x, false, ticket);
                    Check.due("LIFE " + life + ", " + more + " more", peer.told(4), more <= 0 ? 2 : 0);
                    Check.due("no ALERT", peer.told(6), -4);
                }
            }
        }
    }

    /** "it is in its BOOK (20, the eldest goes)": of 19 to 23 that were given the last 20 are known, each by its place. */
    static void promise41_bookOf20() {
        for (int given = 19; given <= 23; given++) {
            for (int place = 0; place < given; place++) {
                SecureLines x = World.both();
                Peer.Offered[] tickets = new Peer.Offered[given];
                int count = 0;
                while (count < given) {
                    int n = Math.min(3, given - count);
                    x.setting(1, 2, n);
                    Peer giver = Stage.served(x);
                    for (int i = 0; i < n; i++) {
                        byte[] id = Own.part(giver.expect(4), 8, 16);
                        tickets[count] = new Peer.Offered(id, 0, Own.derived(0, giver.next, 't', i), 0);
                        count++;
                    }
                }
                Check.due("place " + place + " of " + given, taking(x, false, tickets[place]).told(4), place >= given - 20 ? 2 : 0);
            }
        }
    }

    /** "one of its own ..; else the first TICKET": its own are ahead; "of this id (8 bytes), of this h". */
    static void promise41_ownAheadOfTickets() {
        SecureLines x = World.both();
        Peer.Offered ticket = ticketOf(x, 0);
        Own.feed(x, ticket.id);
        x.shared(1, 1, 99);
        Check.due("its own of another h", taking(x, false, ticket).told(4), 2);
        Own.feed(x, ticket.id);
        x.shared(1, 0, ticket.secret);
        Check.due("its own of this h", taking(x, false, ticket).told(4), 1);
        SecureLines y = World.both();
        Peer.Offered other = ticketOf(y, 0);
        Check.due("seven bytes of its id", taking(y, false, new Peer.Offered(Own.part(other.id, 0, 7), 0, other.secret, 0)).told(4), 0);
        Check.due("a byte more", taking(y, false, new Peer.Offered(Own.cat(other.id, new byte[1]), 0, other.secret, 0)).told(4), 0);
        y.offer(1, 0, 3);
        Check.due("a SUITE of another h", taking(y, false, other).told(4), 0);
    }

    /** "TICKETS that a server gives (0 .. 3 ..)", "each with the byte 0, 1, ..". */
    static void promise41_howManyTickets() {
        for (int n = 0; n <= 3; n++) {
            SecureLines x = World.both();
            World.random(x, 1, 1, 2, 0x0102030405060708L, 3);
            x.setting(1, 2, n);
            x.setting(1, 3, n == 0 ? 0 : 10000);
            x.setting(1, 4, n == 3 ? 400 : 0);
            Peer peer = Stage.served(x);
            for (int i = 0; i < n; i++) {
                byte[] ticket = peer.expect(4);
                long secret = Own.secretOf(Own.cat(Own.secret(2), Own.secret(0x0102030405060708L)), 4);
                Check.that("TICKET " + i, Arrays.equals(ticket, Own.cat(Own.four(10000), Own.four(n == 3 ? 400 : 0),
                    Own.secret(Own.derived(0, secret, 'n', i)), Own.bytes(i))));
            }
            Check.that("no more", peer.nextMessage() == null);
            Check.due("TICKET SECRET is drawn with the first one", x.random(1), n == 0 ? 20 : 12);
            if (n > 0) {
                peer = Stage.served(x);
                byte[] next = peer.expect(4);
                long secret = Own.secretOf(Own.cat(Own.secret(2), Own.secret(0x0102030405060708L)), 4);
                Check.due("how many it gave before", Own.secretOf(next, 8), Own.derived(0, secret, 'n', n));
                Check.due("no TICKET SECRET is drawn again", x.random(1), 0);
            }
        }
    }

    /** "the client's age is off .. by no more than the WINDOW" (0 .. 100): below and above, at it and one more. */
    static void promise41_window() {
        int[] windows = {0, 1, 2, 99, 100};
        for (int window : windows) {
            for (int off = -1; off <= 1; off += 2) {
                for (int more = 0; more <= 1; more++) {
                    SecureLines x = World.both();
                    x.setting(1, 3, 10000);
                    x.setting(1, 4, 1);
                    Peer.Offered ticket = ticketOf(x, 500 + off * (window + more));
                    x.tick(500);
                    x.setting(1, 7, window);
                    Peer peer = taking(x, true, ticket);
                    Check.due("WINDOW " + window + ", off by " + off * (window + more), peer.told(5), more == 0 ? 1 : 0);
                    Check.due("used", peer.told(4), 2);
                }
            }
        }
    }

    /** Ages are FOURs: far ones are off, and nothing runs over. */
    static void promise41_farAges() {
        int[] ages = {Integer.MIN_VALUE, Integer.MIN_VALUE + 5, Integer.MAX_VALUE, Integer.MAX_VALUE - 100, -1000000, 1000000};
        for (int age : ages) {
            SecureLines x = World.both();
            x.setting(1, 4, 1);
            x.setting(1, 7, 100);
            Peer.Offered ticket = ticketOf(x, age);
            x.tick(5);
            Check.due("age " + age, taking(x, true, ticket).told(5), 0);
        }
    }

    /** "SETTING 4 is above 0", by then; "whose EARLY was not taken yet". */
    static void promise41_setting4AndOnce() {
        for (int takes = 0; takes <= 2; takes++) {
            SecureLines x = World.both();
            Peer.Offered ticket = ticketOf(x, 0);
            x.setting(1, 4, takes);
            Check.due("SETTING 4 is " + takes, taking(x, true, ticket).told(5), Math.min(takes, 1));
            x.setting(1, 4, 400);
            Check.due("another time", taking(x, true, ticket).told(5), takes == 0 ? 1 : 0);
            Check.due("a third time", taking(x, true, ticket).told(5), 0);
        }
    }

    /** "HELLO has it", "the first of SHARED is used, it is a TICKET of this SUITE". */
    static void promise41_firstOfSharedIsATicketOfThisSuite() {
        SecureLines x = sharing();
        x.setting(1, 4, 9);
        Peer.Offered ticket = ticketOf(x, 0);
        Check.due("HELLO has no EARLY", taking(x, false, ticket).told(5), 0);
        Check.due("the second is used", taking(x, true, STRANGE, ticket).told(4) * 10, 20);
        Check.due("it is not taken", taking(x, true, STRANGE, ticket).told(5), 0);
        Check.due("the first is no TICKET", taking(x, true, GOOD, ticket).told(5), 0);
        x.offer(1, 0, 2);
        Check.due("another SUITE of its h", taking(x, true, ticket).told(4) * 10 + taking(x, true, ticket).told(5), 20);
        x.offer(1, 0, 1);
        x.offer(1, 1, 2);
        Check.due("RETRY is put", taking(x, true, ticket).told(5), 0);
        x.offer(1, 1, 1);
        Check.due("else it is taken", taking(x, true, ticket, GOOD).told(5), 1);
    }

    /** A peer whose EARLY a server took that takes so many bytes. */
    private static Peer early(int takes) {
        SecureLines x = World.both();
        x.setting(1, 4, takes);
        Peer.Offered ticket = ticketOf(x, 0);
        Peer peer = taking(x, true, ticket);
        Check.due("EARLY is taken", peer.told(5), 1);
        long key = Own.derived(0, Own.keyed(0, 0, Own.secret(ticket.secret)), 'e', peer.digest());
        peer.takeAnswer(9, ticket.secret);
        peer.expect(8);
        peer.takeServerEnd();
        peer.writeBy(key);
        return peer;
    }

    /** "early ones till EARLY'S END; of these more than SETTING 4 tells: 10". */
    static void promise41_earlyBytesAsMany() {
        int[] takes = {1, 2, 200, 291, 399, 400};
        for (int n : takes) {
            Peer peer = early(n);
            for (int left = n; left > 0; left -= 200) {
                Stage.given("as many as " + n, peer, 0, peer.record(23, Own.rowOf(Math.min(left, 200), 3)));
            }
            Stage.given("none more", peer, 0, peer.record(23, NONE));
            Stage.given("one more than " + n, peer, 10, peer.record(23, new byte[1]));
            for (int i = 0; i < n; i++) {
                Check.due("heard", peer.x.hear(peer.c, 1), 3);
            }
            Check.due("not the one more", peer.x.hear(peer.c, 1), -12);
        }
        Peer peer = early(5);
        Stage.given("six at once", peer, 10, peer.record(23, new byte[6]));
        Check.due("none of them is heard", peer.x.hear(peer.c, 1), -12);
        peer = early(5);
        peer.x.setting(1, 4, 4);
        Stage.given("the SETTING by then", peer, 10, peer.record(23, new byte[5]));
    }

    /** "5 EARLY'S END: empty"; "5 if EARLY is taken" comes first; no byte behind it. */
    static void promise41_earlysEnd() {
        Peer peer = early(5);
        Stage.given("with a byte", peer, 50, peer.record(22, Peer.message(5, new byte[1])));
        peer = early(5);
        Stage.given("a byte behind it", peer, 10, peer.record(22, Own.cat(Peer.message(5), new byte[1])));
        peer = early(5);
        Stage.given("END in its place", peer, 10, peer.record(22, Peer.message(20, Own.secret(peer.end(peer.clientKey)))));
        peer = early(5);
        peer.send(5);
        peer.writeBy(peer.clientKey);
        Stage.given("it twice", peer, 10, peer.record(22, Peer.message(5)));
        peer = early(5);
        peer.send(5);
        peer.writeBy(peer.clientKey);
        Stage.given("said behind it", peer, 10, peer.record(23, new byte[1]));
        peer = greeted();
        Stage.given("EARLY was not taken", peer, 10, peer.record(22, Peer.message(5)));
        peer = early(5);
        peer.send(5);
        peer.writeBy(peer.clientKey);
        peer.endAsClient();
        Check.due("open", peer.told(0), 1);
    }

    // ---- RECORDS 23 that are dropped

    /** A peer whose EARLY was not taken; behind RETRY the server has no key for reading. */
    private static Peer dropping(boolean retry) {
        SecureLines x = World.both();
        if (retry) {
            x.offer(1, 1, 2);
        }
        Peer peer = World.toServer(x);
        TreeMap<Integer, byte[]> fields = Peer.usualFields(1, 9);
        fields.put(8, NONE);
        peer.send(1, peer.helloBody(5, fields, Peer.none()));
        return peer;
    }

    private static byte[] strange(int n) {
        return Own.cat(Own.bytes(23), Own.two(n), new byte[n]);
    }

    /** "RECORDS 23 that do not open (or come without a key for reading) are dropped, .. of 600 bytes together". */
    static void promise41_dropped600() {
        for (int way = 0; way < 2; way++) {
            int end = way == 0 ? 20 : 10;
            for (int last = 299; last <= 301; last++) {
                Peer peer = dropping(way == 1);
                Stage.taken("300", peer, 0, strange(300));
                Check.due("dropped", peer.told(14), 300);
                int due = last <= 299 ? 0 : last == 300 ? 0 : 22;
                Stage.taken(last + " more", peer, due, strange(last));
                Check.due("dropped", peer.told(14), due == 0 ? 300 + last : 300);
                if (last == 299) {
                    Stage.taken("two that would make 601", peer, end, strange(2));
                    Check.due("not dropped", peer.told(14), 599);
                }
                if (last == 300) {
                    Stage.taken("one more than 600", peer, end, strange(1));
                    Check.due("not dropped", peer.told(14), 600);
                }
            }
            Peer peer = dropping(way == 1);
            for (int i = 0; i < 600; i++) {
                peer.give(strange(1));
            }
            Check.due("600 of one byte", peer.told(14), 600);
            Check.due("no ALERT", peer.told(6), -4);
            Stage.taken("the 601st", peer, end, strange(1));
            peer = dropping(way == 1);
            Stage.taken("of no bytes", peer, 50, strange(0));
            peer = dropping(way == 1);
            Stage.taken("a kind that is none is not dropped", peer, 10, Own.bytes(24, 0, 1));
        }
    }

    /** A RECORD that would make them more than 600 is not dropped; a smaller one is, then. */
    static void promise41_dropCountsWhatIsIn() {
        Peer peer = dropping(false);
        peer.give(strange(300), strange(291));
        Check.due("591", peer.told(14), 591);
        Stage.taken("nine more", peer, 0, strange(9));
        Check.due("600", peer.told(14), 600);
        Check.due("none was read", peer.told(11), 0);
    }

    /** "till one opened". */
    static void promise41_droppedTillOneOpened() {
        Peer peer = dropping(false);
        peer.give(strange(5));
        peer.takeAnswer(9, 0);
        peer.expect(8);
        peer.expect(11);
        peer.expect(15);
        peer.takeServerEnd();
        byte[] end = Peer.message(20, Own.secret(peer.end(peer.clientKey)));
        Stage.given("one that opens", peer, 0, peer.record(22, Own.part(end, 0, 1)));
        Check.due("it was read", peer.told(11), 1);
        Stage.given("then none is dropped", peer, 20, strange(5));
        Check.due("dropped", peer.told(14), 5);
        // also one in which something is wrong opened
        peer = greeted();
        Stage.given("without EARLY none is dropped", peer, 20, strange(5));
        Check.due("dropped", peer.told(14), 0);
        Stage.given("without EARLY, without a key", fresh(), 10, strange(5));
    }

    /** Behind RETRY they are dropped without a key and, behind ANSWER, with one: together. */
    static void promise41_droppedAcrossRetry() {
        Peer peer = dropping(true);
        peer.give(strange(300));
        peer.suite = 1;
        peer.shorten();
        byte[] retry = peer.expect(6);
        TreeMap<Integer, byte[]> fields = Peer.usualFields(2, 9);
        fields.put(9, Own.part(retry, 8, 16));
        peer.send(1, peer.helloBody(5, fields, Peer.none()));
        Check.due("greeting goes on", peer.told(13), 2);
        peer.give(strange(299));
        Check.due("599", peer.told(14), 599);
        peer.give(strange(1));
        Check.due("600", peer.told(14), 600);
        Stage.taken("one more", peer, 20, strange(1));
    }

    // ---- behind RETRY

    private static void again(String what, int due, Consumer<TreeMap<Integer, byte[]>> change) {
        TreeMap<Integer, byte[]> fields = Peer.usualFields(1, 9);
        fields.put(6, Own.text("h"));
        fields.put(7, Own.bytes(2));
        SecureLines x = World.both();
        x.offer(1, 1, 2);
        Peer peer = World.toServer(x);
        peer.send(1, peer.helloBody(5, fields, Peer.none()));
        peer.suite = 1;
        peer.shorten();
        byte[] retry = peer.expect(6);
        fields.put(4, Own.cat(Own.bytes(2), Own.four(Own.point(2, 8))));
        fields.put(9, Own.part(retry, 8, 16));
        change.accept(fields);
        byte[] message = Peer.message(1, peer.helloBody(5, fields, Peer.none()));
        Stage.given(what, peer, due, peer.records(message));
        Check.due(what + ": messages", peer.told(13), due == 0 ? 2 : 1);
    }

    /** "47 a FIELD 1 to 3, 5 to 7 .. is another one than in the first": lacks, is longer, shorter, in another order. */
    static void promise41_anotherHello() {
        again("the same", 0, f -> { });
        int[] kinds = {2, 3, 5, 6, 7};
        for (int kind : kinds) {
            again("no FIELD " + kind, 47, f -> f.remove(kind));
        }
        again("no VERSIONS: 70", 70, f -> f.remove(1));
        again("VERSIONS longer", 47, f -> f.put(1, Own.bytes(4, 4)));
        again("SUITES shorter", 47, f -> f.put(2, Own.bytes(1, 2)));
        again("SUITES in another order", 47, f -> f.put(2, Own.bytes(1, 3, 2)));
        again("GROUPS longer", 47, f -> f.put(3, Own.bytes(1, 2, 3, 3)));
        again("SCHEMES shorter", 47, f -> f.put(5, Own.bytes(1)));
        again("HOST longer", 47, f -> f.put(6, Own.text("ha")));
        again("MODES", 47, f -> f.put(7, Own.bytes(1)));
        again("EARLY", 47, f -> f.put(8, NONE));
        again("no COOKIE", 47, f -> f.remove(9));
        again("a COOKIE of one bit more", 47, f -> f.get(9)[7] ^= 1);
        again("its first bit", 47, f -> f.get(9)[0] ^= (byte) 128);
        again("no SHARE", 47, f -> f.remove(4));
        again("SHARE of another GROUP", 47, f -> f.put(4, Own.bytes(1, 0, 0, 0, 5)));
        again("47 ahead of 109", 47, f -> {
            f.remove(2);
            f.remove(5);
        });
        again("70 ahead of 47", 70, f -> {
            f.put(1, Own.bytes(5));
            f.remove(9);
        });
        again("50 ahead of 70", 50, f -> {
            f.remove(1);
            f.put(5, NONE);
        });
        again("JOINT 0", 47, f -> f.put(4, Own.bytes(2, 0, 0, 0, 1)));
        again("others may be other ones", 0, f -> f.put(200, new byte[9]));
    }

    /** RETRY is put once: a HELLO behind it is answered or refused. */
    static void promise41_retryOnce() {
        for (int way = 0; way < 2; way++) {
            SecureLines x = World.both();
            x.offer(1, 1, 2);
            Peer peer = World.toServer(x);
            TreeMap<Integer, byte[]> fields = Peer.usualFields(1, 9);
            peer.send(1, peer.helloBody(5, fields, Peer.none()));
            peer.suite = 1;
            peer.shorten();
            byte[] retry = peer.expect(6);
            x.offer(1, 1, 3);
            x.offer(1, 0, 3);
            fields.put(4, Own.cat(Own.bytes(way == 0 ? 2 : 3), Own.four(5)));
            fields.put(9, Own.part(retry, 8, 16));
            Stage.given("behind RETRY", peer, way == 0 ? 0 : 47, peer.records(Peer.message(1, peer.helloBody(5, fields, Peer.none()))));
            Check.due("the SUITE that RETRY told", peer.told(1), 1);
            Check.due("the GROUP that RETRY told", peer.told(2), way == 0 ? 2 : 0);
        }
    }

    // ---- CHAIN, PROOF, END, NEW KEYS

    private static void chain(String what, int asks, int due, byte[]... body) {
        Peer peer = Stage.asked(asks);
        Stage.given(what, peer, due, peer.records(Peer.message(11, body)));
        Check.due(what + ": shown", peer.told(12), due == 0 ? Own.cat(body)[0] : 0);
    }

    /** "11 CHAIN: n, 0 .. 4; n times TWO how many bytes, a CERTIFICATE; TWO how many bytes, an ANSWER". */
    static void promise41_formOfChain() {
        byte[] one = World.client();
        chain("nothing", 1, 50);
        chain("n alone", 1, 50, Own.bytes(0));
        chain("n 0, a byte", 1, 50, Own.bytes(0, 0));
        chain("n 0", 1, 0, Own.bytes(0, 0, 0));
        chain("n 0, a byte more", 1, 50, Own.bytes(0, 0, 0, 0));
        chain("n 0, a length beyond", 1, 50, Own.bytes(0, 0, 1));
        chain("n 1", 1, 0, Peer.chain(NONE, one));
        byte[] row = Peer.chain(NONE, one);
        chain("n 1, a byte lacks", 1, 50, Own.part(row, 0, row.length - 1));
        chain("n 1, a byte more", 1, 50, row, new byte[1]);
        chain("n 1, two are there", 1, 50, Own.bytes(1), Own.part(Peer.chain(NONE, one, one), 1, Peer.chain(NONE, one, one).length));
        chain("n 4", 1, 42, Peer.chain(NONE, one, one, one, one));
        chain("n 5", 1, 50, Peer.chain(NONE, one, one, one, one, one));
        chain("n 255", 1, 50, Own.bytes(255), new byte[600]);
        chain("n 1, its length beyond", 1, 50, Own.bytes(1, 255, 255, 0));
    }

    /** "42 one is no CERTIFICATE": of no bytes, of 401 (a NODE else right), with a byte more. */
    static void promise41_noCertificate() {
        byte[] one = World.client();
        chain("of no bytes", 1, 42, Peer.chain(NONE, NONE));
        chain("a byte lacks", 1, 42, Peer.chain(NONE, Own.part(one, 0, one.length - 1)));
        chain("a byte more", 1, 42, Peer.chain(NONE, Own.cat(one, new byte[1])));
        chain("the second is none", 1, 42, Peer.chain(NONE, one, Own.bytes(1)));
        for (int size = 399; size <= 402; size++) {
            byte[] got = Cert.ofSize(size, "cli", "root", World.CLIENT, World.ROOT);
            Check.due("its length", got.length, size);
            chain("of " + size, 1, size <= 400 ? 0 : 42, Peer.chain(NONE, got));
        }
    }

    /** "of a client 116 n = 0 when SETTING 1 is 2; 50 a STAPLE of a client". */
    static void promise41_chainOfAClient() {
        byte[] one = World.client();
        chain("n 0, it asks", 1, 0, Own.bytes(0, 0, 0));
        chain("n 0, it wants one", 2, 116, Own.bytes(0, 0, 0));
        chain("n 0 and a STAPLE, it wants one", 2, 116, Own.bytes(0, 0, 1, 5));
        chain("n 0 and a STAPLE", 1, 50, Own.bytes(0, 0, 1, 5));
        chain("a STAPLE of one byte", 1, 50, Peer.chain(Own.bytes(5), one));
        chain("a STAPLE that is an ANSWER", 1, 50, Peer.chain(Cert.answer("root", 3, 0, 0, 9, 1, World.ROOT), one));
        chain("42 ahead of it", 1, 42, Peer.chain(Own.bytes(5), NONE));
        chain("50 ahead of the PATH", 1, 50, Peer.chain(Own.bytes(5), new Cert("cli", "other", 31).by(World.ROOT)));
    }

    /** "15 PROOF: a SCHEME, a SIGNATURE"; "47 a SCHEME that this side does not OFFER; 51 it does not FIT". */
    static void promise41_proof() {
        for (int n = 0; n <= 11; n++) {
            Peer peer = proving();
            byte[] row = Own.cat(peer.proof('C', 1, World.CLIENT), new byte[2]);
            Stage.given("of " + n, peer, n == 9 ? 0 : 50, peer.record(22, Peer.message(15, Own.part(row, 0, n))));
        }
        int[] schemes = {0, 3, 255};
        for (int scheme : schemes) {
            Peer peer = proving();
            Stage.given("SCHEME " + scheme, peer, 47, peer.record(22, Peer.message(15, Own.bytes(scheme), new byte[8])));
        }
        for (int offered = 1; offered <= 2; offered++) {
            for (int scheme = 1; scheme <= 2; scheme++) {
                Peer peer = proving();
                peer.x.offer(1, 2, offered);
                Stage.given("SCHEME " + scheme + " of " + offered, peer, offered == scheme ? 0 : 47,
                    peer.record(22, Peer.message(15, peer.proof('C', scheme, World.CLIENT))));
            }
        }
        for (int bit = 0; bit < 64; bit++) {
            Peer peer = proving();
            byte[] wrong = peer.proof('C', 2, World.CLIENT);
            wrong[1 + bit / 8] ^= 1 << bit % 8;
            Stage.given("bit " + bit, peer, 51, peer.record(22, Peer.message(15, wrong)));
        }
    }

    private static Peer proving() {
        Peer peer = Stage.asked(2);
        peer.send(11, Peer.chain(NONE, World.client()));
        return peer;
    }

    /** "20 END: 8 bytes"; "51 another one". */
    static void promise41_end() {
        for (int n = 0; n <= 10; n++) {
            Peer peer = greeted();
            byte[] row = Own.cat(Own.secret(peer.end(peer.clientKey)), new byte[2]);
            Stage.given("of " + n, peer, n == 8 ? 0 : 50, peer.record(22, Peer.message(20, Own.part(row, 0, n))));
            Check.due("open", peer.told(0), n == 8 ? 1 : 2);
        }
        for (int bit = 0; bit < 64; bit++) {
            Peer peer = greeted();
            byte[] wrong = Own.secret(peer.end(peer.clientKey) ^ 1L << bit);
            Stage.given("bit " + bit, peer, 51, peer.record(22, Peer.message(20, wrong)));
        }
    }

    /** "24 NEW KEYS: a byte, 0 or 1"; "47 another byte". */
    static void promise41_newKeys() {
        for (int n = 0; n <= 3; n++) {
            Peer peer = Stage.served(World.both());
            Stage.given("of " + n, peer, n == 1 ? 0 : 50, peer.record(22, Peer.message(24, new byte[n])));
        }
        for (int value = 0; value < 256; value++) {
            Peer peer = Stage.served(World.both());
            Stage.given("byte " + value, peer, value <= 1 ? 0 : 47, peer.record(22, Peer.message(24, Own.bytes(value))));
            Check.due("messages", peer.told(13), value <= 1 ? 3 : 2);
        }
    }

    /** "1: this side puts NEW KEYS 0 (if it has not CLOSED), and its key is new behind it". */
    static void promise41_newKeysThatAsk() {
        for (int closed = 0; closed <= 1; closed++) {
            for (int ask = 0; ask <= 1; ask++) {
                Peer peer = Stage.served(World.both());
                peer.expect(4);
                if (closed == 1) {
                    peer.x.close(peer.c, 1);
                    peer.nextMessage();
                }
                long key = peer.key(0);
                int number = peer.told(10);
                peer.send(24, Own.bytes(ask));
                boolean puts = ask == 1 && closed == 0;
                Check.due("its key", peer.key(0), puts ? Own.derived(0, key, 'u', 0) : key);
                Check.due("its number", peer.told(10), puts ? 0 : number);
                if (puts) {
                    Check.that("NEW KEYS 0", Arrays.equals(peer.expect(24), Own.bytes(0)));
                }
                Check.due("nothing more waits", peer.x.line(peer.c, 1, -1), 0);
            }
        }
    }

    /** "47 if JOINT is 0": a SHARE's point at 0, 1, 2, p - 2, p - 1, and what is drawn ahead of that. */
    static void promise41_jointOfAShare() {
        for (int group = 1; group <= 3; group++) {
            int p = Own.GROUP_PRIMES[group];
            int[] points = {0, 1, 2, p - 2, p - 1, p, -1, Integer.MIN_VALUE};
            for (int point : points) {
                SecureLines x = World.both();
                x.offer(1, 1, group);
                World.random(x, 1, 1, 2, 3);
                byte one = (byte) group;
                boolean good = point >= 2 && point <= p - 2;
                hello("GROUP " + group + ", point " + point, good ? 0 : 47, x, Peer.none(), NONE,
                    f -> f.put(4, Own.cat(Own.bytes(one), Own.four(point))));
                Check.due("RANDOM and x are drawn", x.random(1), 12);
            }
        }
    }

    /** "behind all that, where ANSWER is to be put, RANDOM and (with an exchange) x are drawn": nothing ahead of that. */
    static void promise41_whatIsDrawn() {
        SecureLines x = sharing();
        x.setting(1, 6, 1);
        World.random(x, 1, 1, 2, 3);
        hello("refused", 40, x, Peer.none(), NONE, f -> f.put(5, Own.bytes(9)));
        Check.due("refused: nothing", x.random(1), 24);
        hello("RETRY", 0, x, Peer.none(), NONE, f -> f.remove(4));
        Check.due("RETRY: nothing", x.random(1), 24);
        hello("without exchange", 0, x, Peer.of(GOOD), NONE, f -> f.put(7, Own.bytes(1)));
        Check.due("without exchange: RANDOM alone", x.random(1), 16);
        hello("with exchange", 0, x, Peer.of(GOOD), NONE, f -> f.put(7, Own.bytes(2)));
        Check.due("with exchange: both", x.random(1), 4);
    }
}
